/-! What is known of a program's parts and code, once for all. -/
section SPXS
variable {s t : tab}
theorem mono_of {f : Nat → Nat} {N : Nat} (h : ∀ r, r < N → f r ≤ f (r + 1)) : ∀ r2 r, r ≤ r2 → r2 ≤ N → f r ≤ f r2
  | 0, r, h1, _ => by
    have : r = 0 := by omega
    rw [this]
    exact Nat.le_refl _
  | r2 + 1, r, h1, h2 => by
    by_cases e : r = r2 + 1
    · rw [e]
      exact Nat.le_refl _
    · exact Nat.le_trans (mono_of h r2 r (by omega) (by omega)) (h r2 (by omega))
/-- many intervals, one after the other -/
theorem GLB {N : Nat} {aa bb kk jj : Nat → Nat} {Ls : Nat → Nat → Nat} {T : Nat → Int → Prop} (ho : ∀ r r2, r < r2 → r2 ≤ N → bb r ≤ aa r2 ∧ jj r ≤ kk r2) (hI : ∀ r, r ≤ N → INJx s (Ls r) (aa r) (bb r) (kk r) (jj r)) (hP : ∀ r, r ≤ N → PPy s (aa r) (bb r) (T r)) : ∃ L : Nat → Nat, (∀ r, r ≤ N → ∀ z, aa r ≤ z → z < bb r → L z = Ls r z) ∧ (∀ z y, (∃ r, r ≤ N ∧ aa r ≤ z ∧ z < bb r) → (∃ r, r ≤ N ∧ aa r ≤ y ∧ y < bb r) → s 100 z = 311 → s 100 y = 311 → L z = L y → z = y) ∧ ∀ y z c, (∃ r, r ≤ N ∧ aa r ≤ y ∧ y < bb r) → (∃ r, r ≤ N ∧ aa r ≤ z ∧ z < bb r) → CHl s y c → CHl s z c → y = z := by
  have un : ∀ {r r2 z : Nat}, r ≤ N → r2 ≤ N → aa r ≤ z → z < bb r → aa r2 ≤ z → z < bb r2 → r = r2 := fun {r r2 z} h1 h2 h3 h4 h5 h6 => by
    rcases Nat.lt_trichotomy r r2 with q | q | q
    · have := (ho r r2 q h2).1
      omega
    · exact q
    · have := (ho r2 r q h1).1
      omega
  obtain ⟨L, hL⟩ : ∃ L : Nat → Nat, ∀ r, r ≤ N → ∀ z, aa r ≤ z → z < bb r → L z = Ls r z := by
    refine ⟨fun z => @dite Nat (∃ r, r ≤ N ∧ aa r ≤ z ∧ z < bb r) (Classical.propDecidable _) (fun k => Ls k.choose z) (fun _ => 0), fun r h1 z h2 h3 => ?_⟩
    have k : ∃ r, r ≤ N ∧ aa r ≤ z ∧ z < bb r := ⟨r, h1, h2, h3⟩
    dsimp only
    rw [dif_pos k]
    have e := un k.choose_spec.1 h1 k.choose_spec.2.1 k.choose_spec.2.2 h2 h3
    rw [e]
  refine ⟨L, hL, fun z y hz hy e1 e2 e => ?_, fun y z c hy hz e1 e2 => ?_⟩
  · obtain ⟨r, r1, r2, r3⟩ := hz
    obtain ⟨u, u1, u2, u3⟩ := hy
    rw [hL r r1 z r2 r3, hL u u1 y u2 u3] at e
    have w1 := (hI r r1).2.1 z r2 r3 e1
    have w2 := (hI u u1).2.1 y u2 u3 e2
    rcases Nat.lt_trichotomy r u with q | q | q
    · have := (ho r u q u1).2
      omega
    · subst q
      exact (hI r r1).2.2 z y r2 r3 u2 u3 e1 e2 e
    · have := (ho u r q r1).2
      omega
  · obtain ⟨r, r1, r2, r3⟩ := hy
    obtain ⟨u, u1, u2, u3⟩ := hz
    have w1 := (hP r r1).1 y c r2 r3 e1
    have w2 := (hP u u1).1 z c u2 u3 e2
    rcases Nat.lt_trichotomy r u with q | q | q
    · have := (ho r u q u1).1
      omega
    · subst q
      exact (hP r r1).2.1 y z c r2 r3 u2 u3 e1 e2
    · have := (ho u r q r1).1
      omega
/-- parts and code of the same text, within the program -/
def CXx (s t : tab) (G : Gmx) (N : Nat) (L : Nat → Nat) (IN : Nat → Prop) (md n a b : Nat) (x : Int) (f l k0 k1 q : Nat) : Prop := ∃ c, CL s t G L md n a b x f l k0 k1 q c ∧ (∀ k, c.2.2.2 (24 + k) → k < N) ∧ (∀ z, a ≤ z → z < b → IN z) ∧ l < 25000 ∧ ∀ v, c.2.1 v → bnd s v
/-- what is asked from within lies within -/
def INC (s : tab) (N : Nat) (IN : Nat → Prop) : Prop := (∀ y c, IN y → CHl s y c → IN c.toNat) ∧ (∀ y, IN y → s 100 y = 404 → 0 ≤ s 101 y ∧ s 101 y < (N : Int)) ∧ (∀ r, r < N → ∀ i, 0 ≤ nth s i (s 114 r) → IN (nth s i (s 114 r)).toNat) ∧ IN (s 99 13).toNat ∧ (∀ y r i, IN y → r < N → 0 ≤ nth s i (s 114 r) → ¬ CHl s y (nth s i (s 114 r))) ∧ ∀ y, IN y → ¬ CHl s y (s 99 13)
def SPX (s t : tab) (G : Gmx) (N : Nat) (L : Nat → Nat) (IN : Nat → Prop) : Prop :=
  (∀ r, r < N → t 200 r = G.1 r ∧ 0 ≤ s 114 r ∧ 0 ≤ t 200 r ∧ ∃ n a b l k0 k1, ((G.2.2 r ∧ CXx s t G N L IN 5 n a b (s 114 r) (t 200 r).toNat l k0 k1 0) ∨ (¬ G.2.2 r ∧ CXx s t G N L IN 1 0 a b (s 114 r) (t 200 r).toNat l k0 k1 0 ∧ s 104 (s 114 r).toNat = -1)) ∧ t 178 l = 12) ∧
  (∃ a b l k0 k1, CXx s t G N L IN 1 0 a b (s 99 13) (t 177 2).toNat l k0 k1 0 ∧ t 178 l = 21) ∧
  (∀ z y, IN z → IN y → s 100 z = 311 → s 100 y = 311 → L z = L y → z = y) ∧
  (∀ y z c, IN y → IN z → CHl s y c → CHl s z c → y = z) ∧
  (s 99 12 ≤ 2000 ∧ 0 ≤ s 99 13 ∧ s 99 13 < s 99 12 ∧ 0 ≤ t 177 2 ∧ s 104 (s 99 13).toNat = -1) ∧ INC s N IN
theorem PG_S (h : PGx s t) : ∃ G N L IN, SPX s t G N L IN ∧ (∀ r, r < N → BOD s G r ∧ (G.2.2 r → ∀ k, k < 24 → ¬ (G.2.1 r).2.2.2 k)) ∧ ∀ z, IN z → ∃ md n a b x f l k0 k1 q c, CO s t G md n a b x f l k0 k1 q c ∧ a ≤ z ∧ z < b ∧ ∀ k, c.2.2.2 (24 + k) → k < N := by
  obtain ⟨H, B, b, l, k1, c, h1, h2, h3, ⟨h4, h5, h6, h7, h8, h9, h10, h11, h11b⟩, h12, h13, h14, h15, h16, _⟩ := h
  obtain ⟨N, hN⟩ : ∃ N, N = (s 109 5).toNat := ⟨_, rfl⟩
  rw [← hN] at h2 h11b
  have lt : ∀ r, r < N → (r : Int) < s 109 5 := fun r hr => by omega
  have rt := CO_rt h2 (by omega)
  obtain ⟨⟨LM, m1, m2⟩, m3, _⟩ := CO_lab h2
  have hx : ∀ r, ∃ p : (Nat × Nat × Nat × Nat) × (Nat → Nat), r < N → ((H.1.2.2 r → CL s t H.1 p.2 5 p.1.1 p.1.2.1 p.1.2.2.1 (s 114 r) (t 200 r).toNat p.1.2.2.2 (H.2 r) (H.2 (r + 1)) 0 (H.1.2.1 r)) ∧ (¬ H.1.2.2 r → CL s t H.1 p.2 1 0 p.1.2.1 p.1.2.2.1 (s 114 r) (t 200 r).toNat p.1.2.2.2 (H.2 r) (H.2 (r + 1)) 0 (H.1.2.1 r) ∧ s 104 (s 114 r).toNat = -1) ∧ t 178 p.1.2.2.2 = 12 ∧ (p.1.2.2.2 : Int) < t 177 1 ∧ 0 ≤ s 114 r ∧ 0 ≤ t 200 r ∧ H.2 (1000 + r) ≤ p.1.2.1 ∧ p.1.2.2.1 ≤ H.2 (1000 + r + 1)) ∧ INJx s p.2 p.1.2.1 p.1.2.2.1 (H.2 r) (H.2 (r + 1)) ∧ ∃ T, PPy s p.1.2.1 p.1.2.2.1 T := fun r => by
    by_cases hr : r < N
    · obtain ⟨v, w, _⟩ := h1 r (lt r hr)
      obtain ⟨n, a, b, l, w1, w2, w3, w4, w5, w6, w7, w8, w9⟩ := w h16
      by_cases hf : H.1.2.2 r
      · obtain ⟨⟨L, u1, u2⟩, u3, _⟩ := CO_lab (w1 hf)
        exact ⟨((n, a, b, l), L), fun _ => ⟨⟨fun _ => u1, fun q => absurd hf q, w3, w5, w6, w7, w8, w9⟩, u2, _, u3⟩⟩
      · obtain ⟨⟨L, u1, u2⟩, u3, _⟩ := CO_lab (w2 hf).1
        exact ⟨((n, a, b, l), L), fun _ => ⟨⟨fun q => absurd q hf, fun _ => ⟨u1, (w2 hf).2⟩, w3, w5, w6, w7, w8, w9⟩, u2, _, u3⟩⟩
    · exact ⟨((0, 0, 0, 0), fun _ => 0), fun q => absurd q hr⟩
  obtain ⟨P, hP⟩ : ∃ P : Nat → (Nat × Nat × Nat × Nat) × (Nat → Nat), ∀ r, P r = (hx r).choose := ⟨_, fun _ => rfl⟩
  have hp := fun r (hr : r < N) => (hx r).choose_spec hr
  have le : ∀ r, r < N → (P r).1.2.1 ≤ (P r).1.2.2.1 := fun r hr => by
    have k := (hp r hr).1
    rw [← hP] at k
    by_cases hf : H.1.2.2 r
    · exact (CO_le (CL_co (k.1 hf))).1
    · exact (CO_le (CL_co (k.2.1 hf).1)).1
  have A1 : ∀ r, r < N → H.2 (1000 + r) ≤ (P r).1.2.1 ∧ (P r).1.2.2.1 ≤ H.2 (1000 + r + 1) := fun r hr => by
    have k := (hp r hr).1.2.2.2.2.2.2
    rw [← hP] at k
    exact k
  have mA := mono_of (f := fun r => H.2 (1000 + r)) (N := N) (fun r hr => by
    have := A1 r hr
    have := le r hr
    show H.2 (1000 + r) ≤ H.2 (1000 + r + 1)
    omega)
  have mK := mono_of (f := H.2) (N := N) (fun r hr => (h1 r (lt r hr)).2.2)
  obtain ⟨aa, haa⟩ : ∃ aa : Nat → Nat, ∀ r, aa r = if r < N then (P r).1.2.1 else B := ⟨_, fun _ => rfl⟩
  obtain ⟨bb, hbb⟩ : ∃ bb : Nat → Nat, ∀ r, bb r = if r < N then (P r).1.2.2.1 else b := ⟨_, fun _ => rfl⟩
  obtain ⟨jj, hjj⟩ : ∃ jj : Nat → Nat, ∀ r, jj r = if r < N then H.2 (r + 1) else k1 := ⟨_, fun _ => rfl⟩
  obtain ⟨Ls, hLs⟩ : ∃ Ls : Nat → Nat → Nat, ∀ r, Ls r = if r < N then (P r).2 else LM := ⟨_, fun _ => rfl⟩
  have tpe : ∀ r, ∃ T, r ≤ N → PPy s (aa r) (bb r) T := fun r => by
    by_cases hr : r < N
    · have k := (hp r hr).2.2
      rw [← hP] at k
      obtain ⟨T, k⟩ := k
      exact ⟨T, fun _ => by rw [haa, hbb, if_pos hr, if_pos hr]; exact k⟩
    · exact ⟨_, fun _ => by rw [haa, hbb, if_neg hr, if_neg hr]; exact m3⟩
  have hoo : ∀ r r2, r < r2 → r2 ≤ N → bb r ≤ aa r2 ∧ jj r ≤ H.2 r2 := fun r r2 q1 q2 => by
    rw [haa, hbb, hjj, if_pos (show r < N by omega), if_pos (show r < N by omega)]
    have e1 := A1 r (by omega)
    have e2 : H.2 (1000 + (r + 1)) ≤ H.2 (1000 + r2) := mA r2 (r + 1) (by omega) q2
    have e3 := mK r2 (r + 1) (by omega) q2
    by_cases w : r2 < N
    · rw [if_pos w]
      have := A1 r2 w
      rw [show 1000 + r + 1 = 1000 + (r + 1) by omega] at e1
      omega
    · rw [if_neg w]
      have : r2 = N := by omega
      rw [this] at e2 e3
      rw [show 1000 + r + 1 = 1000 + (r + 1) by omega] at e1
      rw [this]
      omega
  have un3 : ∀ {r r2 z : Nat}, r ≤ N → r2 ≤ N → aa r ≤ z → z < bb r → aa r2 ≤ z → z < bb r2 → r = r2 := fun {r r2 z} h1 h2 h3 h4 h5 h6 => by
    rcases Nat.lt_trichotomy r r2 with q | q | q
    · have := (hoo r r2 q h2).1
      omega
    · exact q
    · have := (hoo r2 r q h1).1
      omega
  obtain ⟨L, g1, g2, g3⟩ := GLB (s := s) (N := N) (aa := aa) (bb := bb) (kk := H.2) (jj := jj) (Ls := Ls) (T := fun r => (tpe r).choose) hoo (fun r hr => by
    rw [haa, hbb, hjj, hLs]
    by_cases w : r < N
    · rw [if_pos w, if_pos w, if_pos w, if_pos w]
      have k := (hp r w).2.1
      rw [← hP] at k
      exact k
    · rw [if_neg w, if_neg w, if_neg w, if_neg w]
      have : r = N := by omega
      rw [this]
      exact m2) (fun r hr => (tpe r).choose_spec hr)
  refine ⟨H.1, N, L, fun z => ∃ r, r ≤ N ∧ aa r ≤ z ∧ z < bb r, ⟨fun r hr => ?_, ?_, g2, g3, ⟨h6, h10, by omega, h9, h13⟩, ?_⟩, fun r hr => ⟨PG_B h1 h16 r (lt r hr), fun hf k hk q => ?_⟩, fun z hz => ?_⟩
  · have k := (hp r hr).1
    rw [← hP] at k
    obtain ⟨w1, w2, w3, w4, w5, w6, _⟩ := k
    have v := (h1 r (lt r hr)).1
    have ca : ∀ k, (H.1.2.1 r).2.2.2 (24 + k) → k < N := fun k q => by
      have := RV_ca v k q
      omega
    have ii : ∀ z, (P r).1.2.1 ≤ z → z < (P r).1.2.2.1 → ∃ r, r ≤ N ∧ aa r ≤ z ∧ z < bb r := fun z q1 q2 => ⟨r, by omega, by rw [haa, if_pos hr]; exact q1, by rw [hbb, if_pos hr]; exact q2⟩
    have ex : ∀ z, (P r).1.2.1 ≤ z → z < (P r).1.2.2.1 → L z = (P r).2 z := fun z q1 q2 => by
      have := g1 r (by omega) z (by rw [haa, if_pos hr]; exact q1) (by rw [hbb, if_pos hr]; exact q2)
      rw [hLs, if_pos hr] at this
      exact this
    have bb2 : ∀ w, (H.1.2.1 r).2.1 w → bnd s w := fun w q => by
      obtain ⟨_, _, ⟨P2, hP2⟩, _, _, _, _, _, _, _, _, v12, _⟩ := v
      rw [hP2] at q
      exact v12 w q.symm
    refine ⟨v.1, w5, w6, (P r).1.1, (P r).1.2.1, (P r).1.2.2.1, (P r).1.2.2.2, H.2 r, H.2 (r + 1), ?_, w3⟩
    by_cases hf : H.1.2.2 r
    · exact .inl ⟨hf, _, CL_lx (w1 hf) ex, ca, ii, by omega, bb2⟩
    · exact .inr ⟨hf, ⟨_, CL_lx (w2 hf).1 ex, ca, ii, by omega, bb2⟩, (w2 hf).2⟩
  · refine ⟨B, b, l, H.2 N, k1, ⟨c, CL_lx m1 (fun z q1 q2 => ?_), fun k q => by have := h12.1 k q; omega, fun z q1 q2 => ⟨N, Nat.le_refl _, by rw [haa, if_neg (by omega)]; exact q1, by rw [hbb, if_neg (by omega)]; exact q2⟩, by omega, h12.2⟩, h3⟩
    have := g1 N (Nat.le_refl _) z (by rw [haa, if_neg (by omega)]; exact q1) (by rw [hbb, if_neg (by omega)]; exact q2)
    rw [hLs, if_neg (by omega)] at this
    exact this
  · have co : ∀ r, r < N → ∃ md n c, (md = 1 ∨ md = 5) ∧ CO s t H.1 md n (P r).1.2.1 (P r).1.2.2.1 (s 114 r) (t 200 r).toNat (P r).1.2.2.2 (H.2 r) (H.2 (r + 1)) 0 c ∧ (∀ k, c.2.2.2 (24 + k) → k < N) ∧ (md = 1 → flx s (s 114 r) = -1) := fun r hr => by
      have k := (hp r hr).1
      rw [← hP] at k
      obtain ⟨w1, w2, w3, w4, w5, w6, _⟩ := k
      have v := (h1 r (lt r hr)).1
      have ca : ∀ k, (H.1.2.1 r).2.2.2 (24 + k) → k < N := fun k q => by
        have := RV_ca v k q
        omega
      by_cases hf : H.1.2.2 r
      · exact ⟨5, _, _, .inr rfl, CL_co (w1 hf), ca, fun e => by omega⟩
      · have rt := CO_rt (CL_co (w2 hf).1) (by omega)
        exact ⟨1, _, _, .inl rfl, CL_co (w2 hf).1, ca, fun _ => (if_pos (by omega)).trans (w2 hf).2⟩
    have a0 : ∀ {r}, r < N → aa r = (P r).1.2.1 ∧ bb r = (P r).1.2.2.1 := fun {r} hr => ⟨by rw [haa, if_pos hr], by rw [hbb, if_pos hr]⟩
    have aN : aa N = B ∧ bb N = b := ⟨by rw [haa, if_neg (by omega)], by rw [hbb, if_neg (by omega)]⟩
    have bdy : ∀ r, r < N → ∀ i, 0 ≤ nth s i (s 114 r) → (aa r : Int) ≤ nth s i (s 114 r) ∧ nth s i (s 114 r) < (bb r : Int) ∧ ∀ y, aa r ≤ y → y < bb r → ¬ CHl s y (nth s i (s 114 r)) := fun r hr i hi => by
      obtain ⟨md, n, c9, k1, k2, k3, k4⟩ := co r hr
      have w1 := CO_top k2 k1 k4 hi
      have w2 := CO_tno k2 k1 k4 hi
      rw [(a0 hr).1, (a0 hr).2]
      exact ⟨w1.1, w1.2, w2⟩
    have rtx := (CO_le h2).2.2 (by omega)
    have mnx : ∀ y, aa N ≤ y → y < bb N → ¬ CHl s y (s 99 13) := fun y y1 y2 => by
      rw [aN.1] at y1
      rw [aN.2] at y2
      exact m3.2.2.1 y _ y1 y2 |> fun w q => w q ((tp_1 (by omega)).mpr rfl)
    refine ⟨fun y c hy hc => ?_, fun y hy hk => ?_, fun r hr i hi => ?_, ?_, fun y r i hy hr hi hc => ?_, fun y hy hc => ?_⟩
    · obtain ⟨r, r1, r2, r3⟩ := hy
      have := ((tpe r).choose_spec r1).1 y c r2 r3 hc
      exact ⟨r, r1, by omega, by omega⟩
    · obtain ⟨r, r1, r2, r3⟩ := hy
      by_cases hr : r < N
      · obtain ⟨md, n, c9, k1, k2, k3, _⟩ := co r hr
        rw [(a0 hr).1] at r2
        rw [(a0 hr).2] at r3
        exact CO_404 k2 k3 r2 r3 hk
      · have e : r = N := by omega
        rw [e, aN.1] at r2
        rw [e, aN.2] at r3
        exact CO_404 h2 (fun k q => by have := h12.1 k q; omega) r2 r3 hk
    · obtain ⟨md, n, c9, k1, k2, k3, k4⟩ := co r hr
      have := CO_top k2 k1 k4 hi
      refine ⟨r, by omega, ?_, ?_⟩
      · rw [(a0 hr).1]
        omega
      · rw [(a0 hr).2]
        omega
    · have := (CO_le h2).2.2 (by omega)
      refine ⟨N, Nat.le_refl _, ?_, ?_⟩
      · rw [aN.1]
        omega
      · rw [aN.2]
        omega
    · obtain ⟨u, u1, u2, u3⟩ := hy
      have w := ((tpe u).choose_spec u1).1 y _ u2 u3 hc
      obtain ⟨b1, b2, b3⟩ := bdy r hr i hi
      have e := un3 u1 (show r ≤ N by omega) (z := (nth s i (s 114 r)).toNat) (by omega) (by omega) (by omega) (by omega)
      subst e
      exact b3 y u2 u3 hc
    · obtain ⟨u, u1, u2, u3⟩ := hy
      have w := ((tpe u).choose_spec u1).1 y _ u2 u3 hc
      have e := un3 u1 (Nat.le_refl N) (z := (s 99 13).toNat) (by omega) (by omega) (by rw [aN.1]; omega) (by rw [aN.2]; omega)
      subst e
      exact mnx y u2 u3 hc
  · obtain ⟨_, _, ⟨P2, hP2⟩, _, _, _, _, _, _, _, _, _, v13⟩ := (h1 r (lt r hr)).1
    rw [hP2] at q
    rcases q with ⟨_, q⟩ | ⟨_, _, q⟩ | ⟨q, _⟩
    · exact (v13 hf _).1 q
    · exact (v13 hf _).2 q
    · omega
  · obtain ⟨u, u1, u2, u3⟩ := hz
    by_cases hr : u < N
    · have k := (hp u hr).1
      rw [← hP] at k
      obtain ⟨w1, w2, _⟩ := k
      have v := (h1 u (lt u hr)).1
      have ca : ∀ k, (H.1.2.1 u).2.2.2 (24 + k) → k < N := fun k q => by
        have := RV_ca v k q
        omega
      rw [haa, if_pos hr] at u2
      rw [hbb, if_pos hr] at u3
      by_cases hf : H.1.2.2 u
      · exact ⟨5, _, _, _, _, _, _, _, _, _, _, CL_co (w1 hf), u2, u3, ca⟩
      · exact ⟨1, _, _, _, _, _, _, _, _, _, _, CL_co (w2 hf).1, u2, u3, ca⟩
    · have e : u = N := by omega
      rw [e, haa, if_neg (by omega)] at u2
      rw [e, hbb, if_neg (by omega)] at u3
      exact ⟨1, 0, B, b, _, _, l, _, k1, 0, c, h2, u2, u3, fun k q => by have := h12.1 k q; omega⟩
end SPXS
