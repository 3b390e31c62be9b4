/-! The reference's branches and the parts machine: what is between them. -/
section CXU
variable {s t : tab} {G : Gmx} {R : COt} {md n a b f l k0 k1 q : Nat} {x : Int} {c : Cxx}
/-- what is below lies within, its code too, and may touch no more -/
theorem COk_al (hR : ∀ md n a b x f l k0 k1 q c, R md n a b x f l k0 k1 q c → a ≤ b ∧ f ≤ l) (k : COk s t G R md n a b x f l k0 k1 q c) : COk s t G (fun md2 n2 a2 b2 x2 f2 l2 j0 j1 q2 c2 => R md2 n2 a2 b2 x2 f2 l2 j0 j1 q2 c2 ∧ (a ≤ a2 ∧ b2 ≤ b ∧ l2 ≤ l) ∧ SBx c2 c) md n a b x f l k0 k1 q c := by
  have hR : ∀ {md n a b f l k0 k1 q : Nat} {x : Int} {c : Cxx}, R md n a b x f l k0 k1 q c → a ≤ b ∧ f ≤ l := fun h => hR _ _ _ _ _ _ _ _ _ _ _ h
  rcases k with ⟨h1, h2, h3, h4, h5, h6, k⟩ | ⟨h1, h2, h3, h4, h5, h6, k⟩ | k | ⟨h1, n1, b1, m, h2, h3, h4⟩ | ⟨h1, n1, b1, m, kk, h2, h3, h4⟩ | ⟨h1, n1, b1, m, kk, c1, c2, h2, h3, h4, h5, h6, h7⟩ | ⟨h1, h2, h3, h4⟩
  · have hx : x.toNat + 1 = b := by omega
    refine .inl ⟨h1, h2, h3, h4, h5, h6, ?_⟩
    rcases k with k | k | ⟨k1, k2, ⟨m, k3, k4⟩, k5⟩ | ⟨k1, m, k2, k3⟩ | ⟨k1, b1, m1, m2, k2, k3, k4⟩ | ⟨k1, ⟨r, n, m, g1, g2, g3, g4, g5, g6, g7⟩, k3⟩
    · exact .inl k
    · exact .inr (.inl k)
    · exact .inr (.inr (.inl ⟨k1, k2, ⟨m, ⟨k3, ⟨by omega, by omega, by omega⟩, SB_rf⟩, k4⟩, k5⟩))
    · exact .inr (.inr (.inr (.inl ⟨k1, m, ⟨k2, ⟨by omega, by omega, by omega⟩, SB_rf⟩, k3⟩)))
    · have e1 := hR k2
      have e2 := hR k3
      exact .inr (.inr (.inr (.inr (.inl ⟨k1, b1, m1, m2, ⟨k2, ⟨by omega, by omega, by omega⟩, SB_rf⟩, ⟨k3, ⟨by omega, by omega, by omega⟩, SB_rf⟩, k4⟩))))
    · exact .inr (.inr (.inr (.inr (.inr ⟨k1, ⟨r, n, m, g1, g2, g3, g4, g5, ⟨g6, ⟨by omega, by omega, by omega⟩, SB_rf⟩, g7⟩, k3⟩))))
  · have hx : x.toNat + 1 = b := by omega
    refine .inr (.inl ⟨h1, h2, h3, h4, h5, h6, ?_⟩)
    rcases k with ⟨k1, k2⟩ | k | ⟨k1, k2, n, k3, k4⟩ | ⟨k1, k2, k3, k4, ⟨m, k5, k6⟩, k7⟩ | ⟨k1, k2, k3, ⟨b1, m1, m2, k4, k5, k6⟩, k7⟩ | ⟨k1, k2, k3, ⟨m, k4, k5⟩, k6⟩ | ⟨k1, k2, k3, ⟨m, k4, k5⟩, k6⟩ | ⟨k1, ⟨r, n, m, g1, g2, g3, g4, g5, g6, g7⟩, k3⟩ | ⟨k1, k2, b1, m, m2, k3, k4, k5⟩ | ⟨k1, k2, b1, m, m2, k3, k4, k5, k6, k7⟩ | ⟨k1, k2, k3, k4, k5, k6, k7, k8, k9, k10, m, k11, k12⟩ | ⟨k1, k2, k3, k4, k5, k6, n, k7, k8, k9, k10⟩
    · exact .inl ⟨k1, k2, ⟨by omega, by omega, by omega⟩, SB_rf⟩
    · exact .inr (.inl k)
    · exact .inr (.inr (.inl ⟨k1, k2, n, k3, k4, ⟨by omega, by omega, by omega⟩, SB_rf⟩))
    · exact .inr (.inr (.inr (.inl ⟨k1, k2, k3, k4, ⟨m, ⟨k5, ⟨by omega, by omega, by omega⟩, SB_rf⟩, k6⟩, k7⟩)))
    · have e1 := hR k4
      have e2 := hR k5
      exact .inr (.inr (.inr (.inr (.inl ⟨k1, k2, k3, ⟨b1, m1, m2, ⟨k4, ⟨by omega, by omega, by omega⟩, SB_rf⟩, ⟨k5, ⟨by omega, by omega, by omega⟩, SB_rf⟩, k6⟩, k7⟩))))
    · exact .inr (.inr (.inr (.inr (.inr (.inl ⟨k1, k2, k3, ⟨m, ⟨k4, ⟨by omega, by omega, by omega⟩, SB_rf⟩, k5⟩, k6⟩)))))
    · exact .inr (.inr (.inr (.inr (.inr (.inr (.inl ⟨k1, k2, k3, ⟨m, k4.imp id (fun w => ⟨⟨w.1, ⟨by omega, by omega, by omega⟩, SB_rf⟩, w.2⟩), k5⟩, k6⟩))))))
    · exact .inr (.inr (.inr (.inr (.inr (.inr (.inr (.inl ⟨k1, ⟨r, n, m, g1, g2, g3, g4, g5, ⟨g6, ⟨by omega, by omega, by omega⟩, SB_rf⟩, g7⟩, k3⟩)))))))
    · have e1 := hR k3
      refine .inr (.inr (.inr (.inr (.inr (.inr (.inr (.inr (.inl ?_))))))))
      rcases k5 with ⟨w1, w2, w3⟩ | ⟨b2, kk, w1, w2, w3⟩
      · have e2 := hR w2
        exact ⟨k1, k2, b1, m, m2, ⟨k3, ⟨by omega, by omega, by omega⟩, SB_rf⟩, k4, .inl ⟨w1, ⟨w2, ⟨by omega, by omega, by omega⟩, SB_rf⟩, w3⟩⟩
      · have e2 := hR w1
        have e3 := hR w2
        exact ⟨k1, k2, b1, m, m2, ⟨k3, ⟨by omega, by omega, by omega⟩, SB_rf⟩, k4, .inr ⟨b2, kk, ⟨w1, ⟨by omega, by omega, by omega⟩, SB_rf⟩, ⟨w2, ⟨by omega, by omega, by omega⟩, SB_rf⟩, w3⟩⟩
    · have e1 := hR k3
      have e2 := hR k6
      exact .inr (.inr (.inr (.inr (.inr (.inr (.inr (.inr (.inr (.inl ⟨k1, k2, b1, m, m2, ⟨k3, ⟨by omega, by omega, by omega⟩, SB_rf⟩, k4, k5, ⟨k6, ⟨by omega, by omega, by omega⟩, SB_rf⟩, k7⟩)))))))))
    · exact .inr (.inr (.inr (.inr (.inr (.inr (.inr (.inr (.inr (.inr (.inl ⟨k1, k2, k3, k4, k5, k6, k7, k8, k9, k10, m, ⟨k11, ⟨by omega, by omega, by omega⟩, SB_rf⟩, k12⟩))))))))))
    · exact .inr (.inr (.inr (.inr (.inr (.inr (.inr (.inr (.inr (.inr (.inr ⟨k1, k2, k3, k4, k5, k6, n, k7, k8, k9, k10, ⟨by omega, by omega, by omega⟩, SB_rf⟩))))))))))
  · exact .inr (.inr (.inl k))
  · have e1 := hR h3
    have e2 := hR h4
    exact .inr (.inr (.inr (.inl ⟨h1, n1, b1, m, h2, ⟨h3, ⟨by omega, by omega, by omega⟩, SB_rf⟩, h4, ⟨by omega, by omega, by omega⟩, SB_rf⟩)))
  · have e1 := hR h3
    have e2 := hR h4
    exact .inr (.inr (.inr (.inr (.inl ⟨h1, n1, b1, m, kk, h2, ⟨h3, ⟨by omega, by omega, by omega⟩, SB_rf⟩, h4, ⟨by omega, by omega, by omega⟩, SB_rf⟩))))
  · have e1 := hR h3
    have e2 := hR h6
    exact .inr (.inr (.inr (.inr (.inr (.inl ⟨h1, n1, b1, m, kk, c1, c2, h2, ⟨h3, ⟨by omega, by omega, by omega⟩, h7.1⟩, h4, h5, ⟨h6, ⟨by omega, by omega, by omega⟩, h7.2.1⟩, h7⟩)))))
  · exact .inr (.inr (.inr (.inr (.inr (.inr ⟨h1, h2, ⟨h3, ⟨by omega, by omega, by omega⟩, SB_rf⟩, h4⟩)))))
end CXU
/-- what stays: our parts, the reference's code, routines, how many, names of counters, which parts there are -/
abbrev SCt : Type := tab × tab × Gmx × Nat × (Nat → Nat) × (Nat → Prop)
def cd (K : SCt) (i : Nat) : Int := K.2.1 178 i
def gdc (N : Nat) (s : tab) (c : Cxx) : Prop := (∀ k, c.2.2.2 (24 + k) → k < N) ∧ ∀ v, c.2.1 v → bnd s v
theorem gd_sb {N : Nat} {s : tab} {c d : Cxx} (h : gdc N s c) (hs : SBx d c) : gdc N s d := ⟨fun k q => h.1 k (hs.2.2.2 _ q), fun v q => h.2 v (hs.2.1 v q)⟩
def CPX (K : SCt) : COt := fun md n a b x f l k0 k1 q c => CL K.1 K.2.1 K.2.2.1 K.2.2.2.2.1 md n a b x f l k0 k1 q c ∧ gdc K.2.2.2.1 K.1 c ∧ (∀ z, a ≤ z → z < b → K.2.2.2.2.2 z) ∧ l < 25000
section CXV
variable {K : SCt} {md n a b f l k0 k1 q : Nat} {x : Int} {c : Cxx}
theorem CPX_un (h : CPX K md n a b x f l k0 k1 q c) : COk K.1 K.2.1 K.2.2.1 (CPX K) md n a b x f l k0 k1 q c ∧ LBx K.1 K.2.2.2.2.1 md x k0 := by
  obtain ⟨h1, h2, h3, h4⟩ := h
  obtain ⟨u1, u2⟩ := CL_un h1
  refine ⟨COk_mono (fun md2 n2 a2 b2 x2 f2 l2 j0 j1 q2 c2 w => ?_) (COk_al (fun _ _ _ _ _ _ _ _ _ _ _ w => ⟨(CO_le (CL_co w)).1, (CO_le (CL_co w)).2.1⟩) u1), u2⟩
  exact ⟨w.1, gd_sb h2 w.2.2, fun z q1 q2 => h3 z (by have := w.2.1; omega) (by have := w.2.1; omega), by have := w.2.1; omega⟩
theorem CPX_co (h : CPX K md n a b x f l k0 k1 q c) : CO K.1 K.2.1 K.2.2.1 md n a b x f l k0 k1 q c := CL_co h.1
theorem CPX_rt (h : CPX K md n a b x f l k0 k1 q c) (hm : md ≤ 1) : x + 1 = (b : Int) ∧ (b : Int) ≤ K.1 99 12 ∧ a < b ∧ f ≤ l := ⟨(CO_rt (CPX_co h) hm).1, (CO_rt (CPX_co h) hm).2.1, (CO_le (CPX_co h)).2.2 hm, (CO_le (CPX_co h)).2.1⟩
end CXV
/-- a place, or a JUMP to it -/
def PLC (K : SCt) (pc l : Nat) : Prop := pc = l ∨ cd K pc = 9 ∧ cd K (pc + 1) = (l : Int) ∧ pc < 25000
/-- a child that is done and its value -/
def PVy (K : SCt) (s : tab) (act : Nat → Prop) (y : Nat) (c v : Int) : Prop := CHl K.1 y c ∧ 0 ≤ c ∧ ¬ act c.toNat ∧ s 145 c.toNat = v
/-- the first i E of a row are done: their values, the last one first -/
def PAL (K : SCt) (V : Int → Int → Prop) (x : Int) : Nat → List Int → Prop
  | 0, P => P = []
  | i + 1, P => ∃ v P2, P = v :: P2 ∧ V (nth K.1 i x) v ∧ PAL K V x i P2
/-- behind the E of a call: parameters, the call -/
def STx (K : SCt) (r n m l : Nat) : Prop := (∀ i, i < n → cd K (m + 2 * i) = 5 ∧ cd K (m + 2 * i + 1) = K.1 113 r + ((n - 1 - i : Nat) : Int)) ∧ cd K (m + 2 * n) = 11 ∧ cd K (m + 2 * n + 1) = K.2.2.1.1 r ∧ l = m + 2 * n + 2
/-- parts that wait for a child: y has been turned to u times, cur it remembers; V its children that are done; ch, of mode md, ends at l; y, of mode md2, at l2; P lies on the stack, rb is to go back to -/
def FE (K : SCt) (u : Int) (V : Int → Int → Prop) (y ch md l md2 l2 : Nat) (P rb : List Int) : Prop := md = 0 ∧ md2 = 0 ∧ rb = [] ∧ (
  (K.1 100 y = 401 ∧ u = 1 ∧ (ch : Int) = K.1 102 y ∧ cd K l = 4 ∧ cd K (l + 1) = K.1 101 y ∧ l2 = l + 2 ∧ (0 ≤ K.1 101 y ∧ K.1 101 y < 6 ∧ bnd K.1 (24 + (K.1 101 y).toNat)) ∧ P = []) ∨
  (K.1 100 y = 402 ∧ u = 1 ∧ (ch : Int) = K.1 102 y ∧ cd K l = 0 ∧ cd K (l + 1) = 8 ∧ cd K (l + 2) = K.1 101 y ∧ l2 = l + 3 ∧ P = []) ∨
  (K.1 100 y = 403 ∧ u = 1 ∧ (ch : Int) = K.1 102 y ∧ (∃ b1 m2 c, CPX K 0 0 b1 y (K.1 103 y) l m2 0 0 0 c ∧ ch < b1 ∧ cd K m2 = 0 ∧ cd K (m2 + 1) = 7 ∧ cd K (m2 + 2) = rsg (K.1 101 y) ∧ l2 = m2 + 3) ∧ 0 < lvl (K.1 101 y) ∧ P = []) ∨
  (K.1 100 y = 403 ∧ u = 2 ∧ (ch : Int) = K.1 103 y ∧ cd K l = 0 ∧ cd K (l + 1) = 7 ∧ cd K (l + 2) = rsg (K.1 101 y) ∧ l2 = l + 3 ∧ 0 < lvl (K.1 101 y) ∧ ∃ v, P = [v] ∧ V (K.1 102 y) v))
def FC (K : SCt) (u cur : Int) (V : Int → Int → Prop) (y ch md l md2 l2 : Nat) (P rb : List Int) : Prop := K.1 100 y = 404 ∧ ∃ r n : Nat, K.1 101 y = (r : Int) ∧ r < 12 ∧ r < K.2.2.2.1 ∧ K.1 103 y = (n : Int) ∧ n ≤ 4 ∧ (md2 = 0 ∧ K.2.2.1.2.2 r ∨ md2 = 1 ∧ ¬ K.2.2.1.2.2 r) ∧ (0 ≤ K.1 113 r ∧ K.1 113 r + (n : Int) ≤ 24 ∧ ∀ i, i < n → bnd K.1 ((K.1 113 r).toNat + i)) ∧ (
  (md = 0 ∧ rb = [] ∧ ∃ i, i < n ∧ u = (i : Int) + 1 ∧ (ch : Int) = nth K.1 i (K.1 102 y) ∧ cur = (ch : Int) ∧ (∃ b1 m c, CPX K 2 (n - 1 - i) b1 y (K.1 104 ch) l m 0 0 0 c ∧ (∀ j, j ≤ i → nth K.1 j (K.1 102 y) < (b1 : Int)) ∧ STx K r n m l2) ∧ PAL K V (K.1 102 y) i P) ∨
  (P = [] ∧ rb = [(l2 : Int)] ∧ (n : Int) < u ∧ cur = (ch : Int) ∧ ((md = 1 ∧ K.2.2.1.2.2 r ∧ ∃ n1 b1 b le kk k1 c, CPX K 5 n1 b1 b (K.1 104 ch) l le kk k1 0 c ∧ cd K le = 12) ∨ (md = md2 ∧ K.1 104 ch = -1 ∧ cd K l = 12))))
/-- behind the subscript of a RECEIVE -/
def RCx (K : SCt) (y m l2 : Nat) : Prop := cd K m = (if K.1 101 y < 8 then 14 else 16) ∧ cd K (m + 1) = (if K.1 101 y < 8 then K.1 101 y else K.1 101 y - 8) ∧ cd K (m + 2) = (if K.1 102 y < 24 then 5 else 6) ∧ cd K (m + 3) = (if K.1 102 y < 24 then K.1 102 y else K.1 102 y - 24) ∧ l2 = m + 4 ∧ l2 < 25000 ∧ 0 ≤ K.1 101 y ∧ K.1 101 y < 12 ∧ 0 ≤ K.1 102 y ∧ K.1 102 y < 30 ∧ bnd K.1 (K.1 102 y).toNat
/-- a WHILE: f where it begins, m behind its E, m2 behind its STATEMENT -/
def WHx (K : SCt) (y f m m2 l2 : Nat) : Prop := ∃ a b1 c k0 k1, CPX K 0 0 a b1 (K.1 101 y) (f + 1) m 0 0 0 c ∧ cd K m = 10 ∧ cd K (m + 1) = (l2 : Int) ∧ CPX K 1 0 b1 y (K.1 102 y) (m + 2) m2 k0 k1 0 c ∧ cd K m2 = 9 ∧ cd K (m2 + 1) = (f : Int) + 1 ∧ l2 = m2 + 2 ∧ l2 < 25000
/-- a REPEAT -/
def RPy (K : SCt) (y f m l2 : Nat) : Prop := cd K (f + 4) = 18 ∧ cd K (f + 5) = (K.2.2.2.2.1 y : Int) ∧ cd K (f + 6) = (l2 : Int) ∧ 0 ≤ K.1 101 y ∧ K.1 101 y ≤ 65535 ∧ (∃ a k0 k1 c, CPX K 1 0 a y (K.1 102 y) (f + 7) m k0 k1 0 c) ∧ cd K m = 9 ∧ cd K (m + 1) = (f : Int) + 4 ∧ l2 = m + 2 ∧ l2 < 25000
def FS (K : SCt) (u cur : Int) (V : Int → Int → Prop) (y ch md l md2 l2 : Nat) (P rb : List Int) : Prop := md2 = 1 ∧ rb = [] ∧ (
  (K.1 100 y = 405 ∧ K.1 103 y = -1 ∧ u = 1 ∧ (ch : Int) = K.1 102 y ∧ md = 0 ∧ cd K l = 5 ∧ cd K (l + 1) = K.1 101 y ∧ l2 = l + 2 ∧ 0 ≤ K.1 101 y ∧ K.1 101 y < 24 ∧ bnd K.1 (K.1 101 y).toNat ∧ P = []) ∨
  (K.1 100 y = 405 ∧ 24 ≤ K.1 101 y ∧ K.1 101 y < 30 ∧ bnd K.1 (K.1 101 y).toNat ∧ u = 1 ∧ (ch : Int) = K.1 103 y ∧ md = 0 ∧ (∃ b1 m2 c, CPX K 0 0 b1 y (K.1 102 y) l m2 0 0 0 c ∧ ch < b1 ∧ cd K m2 = 6 ∧ cd K (m2 + 1) = K.1 101 y - 24 ∧ l2 = m2 + 2) ∧ P = []) ∨
  (K.1 100 y = 405 ∧ 24 ≤ K.1 101 y ∧ K.1 101 y < 30 ∧ bnd K.1 (K.1 101 y).toNat ∧ u = 2 ∧ (ch : Int) = K.1 102 y ∧ 0 ≤ K.1 103 y ∧ md = 0 ∧ cd K l = 6 ∧ cd K (l + 1) = K.1 101 y - 24 ∧ l2 = l + 2 ∧ ∃ v, P = [v] ∧ V (K.1 103 y) v) ∨
  (K.1 100 y = 406 ∧ u = 1 ∧ (ch : Int) = K.1 102 y ∧ md = 0 ∧ cd K l = (if K.1 101 y < 8 then 13 else 15) ∧ cd K (l + 1) = (if K.1 101 y < 8 then K.1 101 y else K.1 101 y - 8) ∧ l2 = l + 2 ∧ 0 ≤ K.1 101 y ∧ K.1 101 y < 12 ∧ P = []) ∨
  (K.1 100 y = 407 ∧ 24 ≤ K.1 102 y ∧ u = 1 ∧ (ch : Int) = K.1 103 y ∧ md = 0 ∧ RCx K y l l2 ∧ P = []) ∨
  (K.1 100 y = 408 ∧ 0 < u ∧ cur = (ch : Int) ∧ md = 1 ∧ (∃ n1 b1 kk k1 c, CPX K 3 n1 b1 y (K.1 104 ch) l l2 kk k1 0 c) ∧ P = []) ∨
  (K.1 100 y = 308 ∧ u = 1 ∧ (ch : Int) = K.1 101 y ∧ md = 0 ∧ cd K l = 10 ∧ (∃ b1 m2 c k0 k1, (K.1 103 y = -1 ∧ CPX K 1 0 b1 y (K.1 102 y) (l + 2) m2 k0 k1 0 c ∧ cd K (l + 1) = (m2 : Int) ∧ l2 = m2) ∨ ∃ b2 kk, CPX K 1 0 b1 b2 (K.1 102 y) (l + 2) m2 k0 kk 0 c ∧ CPX K 1 0 b2 y (K.1 103 y) (m2 + 2) l2 kk k1 0 c ∧ cd K m2 = 9 ∧ cd K (m2 + 1) = (l2 : Int) ∧ cd K (l + 1) = (m2 : Int) + 2) ∧ P = []) ∨
  (K.1 100 y = 308 ∧ u = 2 ∧ md = 1 ∧ PLC K l l2 ∧ P = []) ∨
  (K.1 100 y = 310 ∧ u % 2 = 1 ∧ 0 < u ∧ (ch : Int) = K.1 101 y ∧ md = 0 ∧ (∃ f m2, WHx K y f l m2 l2) ∧ P = []) ∨
  (K.1 100 y = 310 ∧ u % 2 = 0 ∧ 0 < u ∧ md = 1 ∧ (∃ f m, WHx K y f m l l2) ∧ P = []) ∨
  (K.1 100 y = 311 ∧ (0 < u ∧ u ≤ K.1 101 y) ∧ md = 1 ∧ (∃ f, RPy K y f l l2) ∧ P = []))
def FRM (K : SCt) (u cur : Int) (V : Int → Int → Prop) (y ch md l md2 l2 : Nat) (P rb : List Int) : Prop := (ch < y ∧ (y : Int) < K.1 99 12 ∧ l < 25000 ∧ l2 < 25000 ∧ md ≤ 1 ∧ CHb K.1 y (ch : Int)) ∧ (FE K u V y ch md l md2 l2 P rb ∨ FC K u cur V y ch md l md2 l2 P rb ∨ FS K u cur V y ch md l md2 l2 P rb)
/-- what comes behind a part: who asked it, up to the branch's own part; tp: -1, or the PAR -/
def KON (K : SCt) (s : tab) (act : Nat → Prop) : Nat → Int → Nat → Nat → Nat → List Int → List Int → Int → Prop
  | 0, _, _, _, _, _, _, _ => False
  | k + 1, y, ch, md, l, S, B, tp => (y = -1 ∧ md = 1 ∧ cd K l = 21 ∧ l < 25000 ∧ S = [] ∧ B = [] ∧ tp = -1) ∨ (∃ z : Nat, y = (z : Int) ∧ act z ∧ PBg s z ∧ md = 1 ∧ cd K l = 20 ∧ l < 25000 ∧ S = [] ∧ B = [] ∧ tp = (z : Int)) ∨ ∃ (z md2 l2 : Nat) (P rb S2 B2 : List Int), y = (z : Int) ∧ act z ∧ FRM K (s 144 z) (s 146 z) (PVy K s act z) z ch md l md2 l2 P rb ∧ S = P ++ S2 ∧ B = rb ++ B2 ∧ KON K s act k (s 143 z) z md2 l2 S2 B2 tp
section KONX
variable {K : SCt} {s s2 : tab} {act act2 : Nat → Prop} {u cur : Int} {V V2 : Int → Int → Prop} {y ch md l md2 l2 : Nat} {P rb S B : List Int} {tp : Int}
theorem PAL_m (h : ∀ c v, V c v → V2 c v) {x : Int} : ∀ (i : Nat) (P : List Int), PAL K V x i P → PAL K V2 x i P
  | 0, _, q => q
  | i + 1, _, ⟨v, P2, q1, q2, q3⟩ => ⟨v, P2, q1, h _ _ q2, PAL_m h i P2 q3⟩
theorem PAL_l {x : Int} : ∀ (i : Nat) (P : List Int), PAL K V x i P → P.length = i
  | 0, _, q => by rw [q]; rfl
  | i + 1, _, ⟨v, P2, q1, _, q3⟩ => by rw [q1, List.length_cons, PAL_l i P2 q3]
theorem FRM_m (h : ∀ c v, V c v → V2 c v) (k : FRM K u cur V y ch md l md2 l2 P rb) : FRM K u cur V2 y ch md l md2 l2 P rb := by
  refine ⟨k.1, ?_⟩
  rcases k.2 with ⟨k1, k2, k3, k⟩ | ⟨k1, r, n, k2, k3, k4, k5, k6, k7, k8, k⟩ | ⟨k1, k2, k⟩
  · refine .inl ⟨k1, k2, k3, ?_⟩
    rcases k with k | k | k | ⟨a1, a2, a3, a4, a5, a6, a7, a8, v, a9, a10⟩
    · exact .inl k
    · exact .inr (.inl k)
    · exact .inr (.inr (.inl k))
    · exact .inr (.inr (.inr ⟨a1, a2, a3, a4, a5, a6, a7, a8, v, a9, h _ _ a10⟩))
  · refine .inr (.inl ⟨k1, r, n, k2, k3, k4, k5, k6, k7, k8, ?_⟩)
    rcases k with ⟨a1, a2, i, a3, a4, a5, a6, a7, a8⟩ | k
    · exact .inl ⟨a1, a2, i, a3, a4, a5, a6, a7, PAL_m h i P a8⟩
    · exact .inr k
  · refine .inr (.inr ⟨k1, k2, ?_⟩)
    rcases k with k | k | ⟨a1, a2, a3, a4, a5, a6, a7, a8, a9, a10, a11, v, a12, a13⟩ | k
    · exact .inl k
    · exact .inr (.inl k)
    · exact .inr (.inr (.inl ⟨a1, a2, a3, a4, a5, a6, a7, a8, a9, a10, a11, v, a12, h _ _ a13⟩))
    · exact .inr (.inr (.inr k))
theorem FRM_l (k : FRM K u cur V y ch md l md2 l2 P rb) : P.length ≤ 4 ∧ rb.length ≤ 1 := by
  have n0 : ([] : List Int).length = 0 := rfl
  rcases k.2 with ⟨k1, k2, k3, k⟩ | ⟨k1, r, n, k2, k3, k4, k5, k6, k7, k8, k⟩ | ⟨k1, k2, k⟩
  · rw [k3]
    rcases k with k | k | k | ⟨a1, a2, a3, a4, a5, a6, a7, a8, v, a9, a10⟩
    · rw [k.2.2.2.2.2.2.2]; exact ⟨by omega, by omega⟩
    · rw [k.2.2.2.2.2.2.2]; exact ⟨by omega, by omega⟩
    · rw [k.2.2.2.2.2]; exact ⟨by omega, by omega⟩
    · rw [a9]; exact ⟨by show 1 ≤ 4; omega, by omega⟩
  · rcases k with ⟨a1, a2, i, a3, a4, a5, a6, a7, a8⟩ | ⟨a1, a2, _⟩
    · rw [PAL_l i P a8, a2]; exact ⟨by omega, by omega⟩
    · rw [a1, a2]; exact ⟨by omega, by show 1 ≤ 1; omega⟩
  · rw [k2]
    rcases k with k | k | ⟨a1, a2, a3, a4, a5, a6, a7, a8, a9, a10, a11, v, a12, a13⟩ | k | k | k | k | k | k | k | k
    · rw [k.2.2.2.2.2.2.2.2.2.2.2]; exact ⟨by omega, by omega⟩
    · rw [k.2.2.2.2.2.2.2.2]; exact ⟨by omega, by omega⟩
    · rw [a12]; exact ⟨by show 1 ≤ 4; omega, by omega⟩
    · rw [k.2.2.2.2.2.2.2.2.2]; exact ⟨by omega, by omega⟩
    · rw [k.2.2.2.2.2.2]; exact ⟨by omega, by omega⟩
    · rw [k.2.2.2.2.2]; exact ⟨by omega, by omega⟩
    · rw [k.2.2.2.2.2.2]; exact ⟨by omega, by omega⟩
    · rw [k.2.2.2.2]; exact ⟨by omega, by omega⟩
    · rw [k.2.2.2.2.2.2]; exact ⟨by omega, by omega⟩
    · rw [k.2.2.2.2.2]; exact ⟨by omega, by omega⟩
    · rw [k.2.2.2.2]; exact ⟨by omega, by omega⟩
/-- how much lies on the stack -/
theorem KON_l (hM : K.1 99 12 ≤ 2000) : ∀ (k : Nat) (y : Int) (ch md l : Nat) (S B : List Int) (tp : Int), KON K s act k y ch md l S B tp → ch < 2000 → S.length + 4 * ch ≤ 8000 ∧ B.length + ch ≤ 2000
  | 0, _, _, _, _, _, _, _, h, _ => h.elim
  | k + 1, y, ch, md, l, S, B, tp, h, hc => by
    rcases h with ⟨_, _, _, _, h5, h6, _⟩ | ⟨z, _, _, _, _, _, _, h5, h6, _⟩ | ⟨z, md2, l2, P, rb, S2, B2, h1, h2, h3, h4, h5, h6⟩
    · rw [h5, h6]
      exact ⟨by show 0 + 4 * ch ≤ 8000; omega, by show 0 + ch ≤ 2000; omega⟩
    · rw [h5, h6]
      exact ⟨by show 0 + 4 * ch ≤ 8000; omega, by show 0 + ch ≤ 2000; omega⟩
    · have := FRM_l h3
      have h3 := h3.1
      have ih := KON_l hM k _ z _ _ S2 B2 _ h6 (by omega)
      rw [h4, h5, List.length_append, List.length_append]
      omega
theorem FRM_k (k : FRM K u cur V y ch md l md2 l2 P rb) : K.1 100 y ≠ 312 := by
  rcases k.2 with ⟨_, _, _, k⟩ | ⟨k, _⟩ | ⟨_, _, k⟩
  · rcases k with k | k | k | k <;> (have := k.1; omega)
  · omega
  · rcases k with k | k | k | k | k | k | k | k | k | k | k <;> (have := k.1; omega)
/-- a turn elsewhere: parts of X move -/
theorem KON_mv {X : Nat → Prop} (hn : ∀ p, X p → NoC s act p ∨ K.1 100 p = 312) (H : ∀ z, act z → ¬ X z → act2 z ∧ s2 143 z = s 143 z ∧ s2 144 z = s 144 z ∧ s2 146 z = s 146 z) (HP : ∀ z : Nat, X z → PBg s z → (z : Int) = tp → PBg s2 z ∧ act2 z) (hst : ∀ j, s2 100 j = s 100 j) (hs : ∀ j, s 100 j = K.1 100 j) (HV : ∀ z c, act z → ¬ X z → CHl K.1 z c → 0 ≤ c → ¬ act c.toNat → ¬ act2 c.toNat ∧ s2 145 c.toNat = s 145 c.toNat) : ∀ (k : Nat) (y : Int) (ch md l : Nat) (S B : List Int), (∀ p : Nat, X p → y = (p : Int) → K.1 100 p = 312) → KON K s act k y ch md l S B tp → KON K s2 act2 k y ch md l S B tp
  | 0, _, _, _, _, _, _, _, h => h.elim
  | k + 1, y, ch, md, l, S, B, hy, h => by
    rcases h with h | ⟨z, h1, h2, h3, h4, h5, h6, h7, h8, h9⟩ | ⟨z, md2, l2, P, rb, S2, B2, h1, h2, h3, h4, h5, h6⟩
    · exact .inl h
    · refine .inr (.inl ⟨z, h1, ?_, ?_, h4, h5, h6, h7, h8, h9⟩)
      · by_cases e : X z
        · exact (HP z e h3 h9.symm).2
        · exact (H z h2 e).1
      · by_cases e : X z
        · exact (HP z e h3 h9.symm).1
        · exact ⟨(hst z).trans h3.1, by rw [(H z h2 e).2.2.1]; exact h3.2⟩
    · have ne : ¬ X z := fun e => FRM_k h3 (hy z e h1)
      obtain ⟨a1, a2, a3, a4⟩ := H z h2 ne
      refine .inr (.inr ⟨z, md2, l2, P, rb, S2, B2, h1, a1, ?_, h4, h5, ?_⟩)
      · rw [a3, a4]
        exact FRM_m (fun c v q => ⟨q.1, q.2.1, (HV z c h2 ne q.1 q.2.1 q.2.2.1).1, ((HV z c h2 ne q.1 q.2.1 q.2.2.1).2).trans q.2.2.2⟩) h3
      · rw [a2]
        refine KON_mv hn H HP hst hs HV k _ z md2 l2 S2 B2 (fun p hp e => ?_) h6
        rcases hn p hp with q | q
        · exact absurd e (q z h2)
        · exact q
end KONX
