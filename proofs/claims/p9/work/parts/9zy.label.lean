/-! Parts and code with the counters' names; each part has one parent. -/
section LABX
variable {s t : tab} {G : Gmx} {R : COt} {md n a b f l k0 k1 q : Nat} {x : Int} {c : Cxx} {L L2 : Nat → Nat}
/-- the counter of a REPEAT -/
def LBx (s : tab) (L : Nat → Nat) (md : Nat) (x : Int) (k0 : Nat) : Prop := md = 1 → s 100 x.toNat = 311 → L x.toNat = k0
def CL (s t : tab) (G : Gmx) (L : Nat → Nat) : COt := fun md n a b x f l k0 k1 q c => ∀ R : COt, (∀ md n a b x f l k0 k1 q c, COk s t G R md n a b x f l k0 k1 q c → LBx s L md x k0 → R md n a b x f l k0 k1 q c) → R md n a b x f l k0 k1 q c
theorem CL_mk (h : COk s t G (CL s t G L) md n a b x f l k0 k1 q c) (hb : LBx s L md x k0) : CL s t G L md n a b x f l k0 k1 q c := fun R hR => hR _ _ _ _ _ _ _ _ _ _ _ (COk_mono (fun _ _ _ _ _ _ _ _ _ _ _ w => w R hR) h) hb
theorem CL_un (h : CL s t G L md n a b x f l k0 k1 q c) : COk s t G (CL s t G L) md n a b x f l k0 k1 q c ∧ LBx s L md x k0 := h (fun md n a b x f l k0 k1 q c => COk s t G (CL s t G L) md n a b x f l k0 k1 q c ∧ LBx s L md x k0) (fun _ _ _ _ _ _ _ _ _ _ _ w hb => ⟨COk_mono (fun _ _ _ _ _ _ _ _ _ _ _ w => CL_mk w.1 w.2) w, hb⟩)
theorem CL_co (h : CL s t G L md n a b x f l k0 k1 q c) : CO s t G md n a b x f l k0 k1 q c := h (CO s t G) (fun _ _ _ _ _ _ _ _ _ _ _ w _ => CO_mk w)
/-- what is below lies within -/
theorem COk_in (hR : ∀ md n a b x f l k0 k1 q c, R md n a b x f l k0 k1 q c → a ≤ b) (k : COk s t G R md n a b x f l k0 k1 q c) : COk s t G (fun md2 n2 a2 b2 x2 f2 l2 j0 j1 q2 c2 => R md2 n2 a2 b2 x2 f2 l2 j0 j1 q2 c2 ∧ a ≤ a2 ∧ b2 ≤ b) md n a b x f l k0 k1 q c := by
  have hR : ∀ {md n a b f l k0 k1 q : Nat} {x : Int} {c : Cxx}, R md n a b x f l k0 k1 q c → a ≤ b := fun h => hR _ _ _ _ _ _ _ _ _ _ _ h
  rcases k with ⟨h1, h2, h3, h4, h5, h6, k⟩ | ⟨h1, h2, h3, h4, h5, h6, k⟩ | k | ⟨h1, n1, b1, m, h2, h3, h4⟩ | ⟨h1, n1, b1, m, kk, h2, h3, h4⟩ | ⟨h1, n1, b1, m, kk, c1, c2, h2, h3, h4, h5, h6, h7⟩ | ⟨h1, h2, h3, h4⟩
  · have hx : x.toNat + 1 = b := by omega
    refine .inl ⟨h1, h2, h3, h4, h5, h6, ?_⟩
    rcases k with k | k | ⟨k1, k2, ⟨m, k3, k4⟩, k5⟩ | ⟨k1, m, k2, k3⟩ | ⟨k1, b1, m1, m2, k2, k3, k4⟩ | ⟨k1, ⟨r, n, m, g1, g2, g3, g4, g5, g6, g7⟩, k3⟩
    · exact .inl k
    · exact .inr (.inl k)
    · exact .inr (.inr (.inl ⟨k1, k2, ⟨m, ⟨k3, by omega, by omega⟩, k4⟩, k5⟩))
    · exact .inr (.inr (.inr (.inl ⟨k1, m, ⟨k2, by omega, by omega⟩, k3⟩)))
    · have e1 := hR k2
      have e2 := hR k3
      exact .inr (.inr (.inr (.inr (.inl ⟨k1, b1, m1, m2, ⟨k2, by omega, by omega⟩, ⟨k3, by omega, by omega⟩, k4⟩))))
    · exact .inr (.inr (.inr (.inr (.inr ⟨k1, ⟨r, n, m, g1, g2, g3, g4, g5, ⟨g6, by omega, by omega⟩, g7⟩, k3⟩))))
  · have hx : x.toNat + 1 = b := by omega
    refine .inr (.inl ⟨h1, h2, h3, h4, h5, h6, ?_⟩)
    rcases k with ⟨k1, k2⟩ | k | ⟨k1, k2, n, k3, k4⟩ | ⟨k1, k2, k3, k4, ⟨m, k5, k6⟩, k7⟩ | ⟨k1, k2, k3, ⟨b1, m1, m2, k4, k5, k6⟩, k7⟩ | ⟨k1, k2, k3, ⟨m, k4, k5⟩, k6⟩ | ⟨k1, k2, k3, ⟨m, k4, k5⟩, k6⟩ | ⟨k1, ⟨r, n, m, g1, g2, g3, g4, g5, g6, g7⟩, k3⟩ | ⟨k1, k2, b1, m, m2, k3, k4, k5⟩ | ⟨k1, k2, b1, m, m2, k3, k4, k5, k6, k7⟩ | ⟨k1, k2, k3, k4, k5, k6, k7, k8, k9, k10, m, k11, k12⟩ | ⟨k1, k2, k3, k4, k5, k6, n, k7, k8, k9, k10⟩
    · exact .inl ⟨k1, k2, by omega, by omega⟩
    · exact .inr (.inl k)
    · exact .inr (.inr (.inl ⟨k1, k2, n, k3, k4, by omega, by omega⟩))
    · exact .inr (.inr (.inr (.inl ⟨k1, k2, k3, k4, ⟨m, ⟨k5, by omega, by omega⟩, k6⟩, k7⟩)))
    · have e1 := hR k4
      have e2 := hR k5
      exact .inr (.inr (.inr (.inr (.inl ⟨k1, k2, k3, ⟨b1, m1, m2, ⟨k4, by omega, by omega⟩, ⟨k5, by omega, by omega⟩, k6⟩, k7⟩))))
    · exact .inr (.inr (.inr (.inr (.inr (.inl ⟨k1, k2, k3, ⟨m, ⟨k4, by omega, by omega⟩, k5⟩, k6⟩)))))
    · exact .inr (.inr (.inr (.inr (.inr (.inr (.inl ⟨k1, k2, k3, ⟨m, k4.imp id (fun w => ⟨⟨w.1, by omega, by omega⟩, w.2⟩), k5⟩, k6⟩))))))
    · exact .inr (.inr (.inr (.inr (.inr (.inr (.inr (.inl ⟨k1, ⟨r, n, m, g1, g2, g3, g4, g5, ⟨g6, by omega, by omega⟩, g7⟩, k3⟩)))))))
    · have e1 := hR k3
      refine .inr (.inr (.inr (.inr (.inr (.inr (.inr (.inr (.inl ?_))))))))
      rcases k5 with ⟨w1, w2, w3⟩ | ⟨b2, kk, w1, w2, w3⟩
      · have e2 := hR w2
        exact ⟨k1, k2, b1, m, m2, ⟨k3, by omega, by omega⟩, k4, .inl ⟨w1, ⟨w2, by omega, by omega⟩, w3⟩⟩
      · have e2 := hR w1
        have e3 := hR w2
        exact ⟨k1, k2, b1, m, m2, ⟨k3, by omega, by omega⟩, k4, .inr ⟨b2, kk, ⟨w1, by omega, by omega⟩, ⟨w2, by omega, by omega⟩, w3⟩⟩
    · have e1 := hR k3
      have e2 := hR k6
      exact .inr (.inr (.inr (.inr (.inr (.inr (.inr (.inr (.inr (.inl ⟨k1, k2, b1, m, m2, ⟨k3, by omega, by omega⟩, k4, k5, ⟨k6, by omega, by omega⟩, k7⟩)))))))))
    · exact .inr (.inr (.inr (.inr (.inr (.inr (.inr (.inr (.inr (.inr (.inl ⟨k1, k2, k3, k4, k5, k6, k7, k8, k9, k10, m, ⟨k11, by omega, by omega⟩, k12⟩))))))))))
    · exact .inr (.inr (.inr (.inr (.inr (.inr (.inr (.inr (.inr (.inr (.inr ⟨k1, k2, k3, k4, k5, k6, n, k7, k8, k9, k10, by omega, by omega⟩))))))))))
  · exact .inr (.inr (.inl k))
  · have e1 := hR h3
    have e2 := hR h4
    exact .inr (.inr (.inr (.inl ⟨h1, n1, b1, m, h2, ⟨h3, by omega, by omega⟩, h4, by omega, by omega⟩)))
  · have e1 := hR h3
    have e2 := hR h4
    exact .inr (.inr (.inr (.inr (.inl ⟨h1, n1, b1, m, kk, h2, ⟨h3, by omega, by omega⟩, h4, by omega, by omega⟩))))
  · have e1 := hR h3
    have e2 := hR h6
    exact .inr (.inr (.inr (.inr (.inr (.inl ⟨h1, n1, b1, m, kk, c1, c2, h2, ⟨h3, by omega, by omega⟩, h4, h5, ⟨h6, by omega, by omega⟩, h7⟩)))))
  · exact .inr (.inr (.inr (.inr (.inr (.inr ⟨h1, h2, ⟨h3, by omega, by omega⟩, h4⟩)))))
/-- only names of its own REPEATs count -/
theorem CL_lx (h : CL s t G L md n a b x f l k0 k1 q c) : (∀ z, a ≤ z → z < b → L2 z = L z) → CL s t G L2 md n a b x f l k0 k1 q c := by
  refine (h (fun md n a b x f l k0 k1 q c => CL s t G L md n a b x f l k0 k1 q c ∧ ((∀ z, a ≤ z → z < b → L2 z = L z) → CL s t G L2 md n a b x f l k0 k1 q c)) ?_).2
  intro md n a b x f l k0 k1 q c k hb
  have h0 : CL s t G L md n a b x f l k0 k1 q c := CL_mk (COk_mono (fun _ _ _ _ _ _ _ _ _ _ _ w => w.1) k) hb
  refine ⟨h0, fun hz => CL_mk (COk_mono (fun _ _ _ _ _ _ _ _ _ _ _ w => w.1.2 (fun z q1 q2 => hz z (by omega) (by omega))) (COk_in (fun _ _ _ _ _ _ _ _ _ _ _ w => (CO_le (CL_co w.1)).1) k)) (fun e1 e2 => ?_)⟩
  have r := (CO_rt (CL_co h0) (by omega)).1
  have e := (CO_le (CL_co h0)).2.2 (by omega)
  rw [hz _ (by omega) (by omega)]
  exact hb e1 e2
/-- names differ -/
def INJx (s : tab) (L : Nat → Nat) (a b k0 k1 : Nat) : Prop := k0 ≤ k1 ∧ (∀ z, a ≤ z → z < b → s 100 z = 311 → k0 ≤ L z ∧ L z < k1) ∧ ∀ z y, a ≤ z → z < b → a ≤ y → y < b → s 100 z = 311 → s 100 y = 311 → L z = L y → z = y
theorem IN_0 {k : Nat} : INJx s L a a k k := ⟨Nat.le_refl _, fun z h1 h2 => by omega, fun z y h1 h2 => by omega⟩
theorem IN_e {k : Nat} (h : INJx s L a b 0 0) : INJx s L2 a b k k := by
  have no : ∀ z, a ≤ z → z < b → s 100 z ≠ 311 := fun z h1 h2 h3 => by
    have := h.2.1 z h1 h2 h3
    omega
  exact ⟨Nat.le_refl _, fun z h1 h2 h3 => absurd h3 (no z h1 h2), fun z y h1 h2 _ _ h3 => absurd h3 (no z h1 h2)⟩
def jnL (m : Nat) (L L2 : Nat → Nat) : Nat → Nat := fun z => if z < m then L z else L2 z
theorem jn_1 {m z : Nat} (h : z < m) : jnL m L L2 z = L z := if_pos h
theorem jn_2 {m z : Nat} (h : m ≤ z) : jnL m L L2 z = L2 z := if_neg (by omega)
theorem IN_mg {m kk : Nat} (h1 : INJx s L a m k0 kk) (h2 : INJx s L2 m b kk k1) : INJx s (jnL m L L2) a b k0 k1 := by
  have e1 := h1.1
  have e2 := h2.1
  refine ⟨by omega, fun z q1 q2 q3 => ?_, fun z y q1 q2 q3 q4 q5 q6 e => ?_⟩
  · by_cases w : z < m
    · rw [jn_1 w]
      have := h1.2.1 z q1 w q3
      omega
    · rw [jn_2 (by omega)]
      have := h2.2.1 z (by omega) q2 q3
      omega
  · by_cases w : z < m
    · rw [jn_1 w] at e
      have u := h1.2.1 z q1 w q5
      by_cases v : y < m
      · rw [jn_1 v] at e
        exact h1.2.2 z y q1 w q3 v q5 q6 e
      · rw [jn_2 (by omega)] at e
        have := h2.2.1 y (by omega) q4 q6
        omega
    · rw [jn_2 (by omega)] at e
      have u := h2.2.1 z (by omega) q2 q5
      by_cases v : y < m
      · rw [jn_1 v] at e
        have := h1.2.1 y q3 v q6
        omega
      · rw [jn_2 (by omega)] at e
        exact h2.2.2 z y (by omega) q2 (by omega) q4 q5 q6 e
theorem IN_x {z : Nat} (h : INJx s L a z k0 k1) (hx : s 100 z ≠ 311) : INJx s L a (z + 1) k0 k1 := by
  have lt : ∀ {w : Nat}, w < z + 1 → s 100 w = 311 → w < z := fun {w} h1 h2 => by
    by_cases e : w = z
    · exact absurd (e ▸ h2) hx
    · omega
  exact ⟨h.1, fun w q1 q2 q3 => h.2.1 w q1 (lt q2 q3) q3, fun w y q1 q2 q3 q4 q5 q6 e => h.2.2 w y q1 (lt q2 q5) q3 (lt q4 q6) q5 q6 e⟩
theorem IN_r {z : Nat} (h : INJx s L a z (k0 + 1) k1) : INJx s (jnL z L (fun _ => k0)) a (z + 1) k0 k1 := by
  have e1 := h.1
  refine ⟨by omega, fun w q1 q2 q3 => ?_, fun w y q1 q2 q3 q4 q5 q6 e => ?_⟩
  · by_cases v : w < z
    · rw [jn_1 v]
      have := h.2.1 w q1 v q3
      omega
    · rw [jn_2 (by omega)]
      show k0 ≤ k0 ∧ k0 < k1
      omega
  · by_cases v : w < z
    · rw [jn_1 v] at e
      have u := h.2.1 w q1 v q5
      by_cases v2 : y < z
      · rw [jn_1 v2] at e
        exact h.2.2 w y q1 v q3 v2 q5 q6 e
      · rw [jn_2 (by omega)] at e
        have e : L w = k0 := e
        omega
    · by_cases v2 : y < z
      · rw [jn_1 v2, jn_2 (by omega)] at e
        have e : k0 = L y := e
        have := h.2.1 y q3 v2 q6
        omega
      · omega
/-- parts from a to b: children lie below, have one parent; T: those without -/
def PPy (s : tab) (a b : Nat) (T : Int → Prop) : Prop := (∀ y c, a ≤ y → y < b → CHl s y c → (a : Int) ≤ c ∧ c < (y : Int)) ∧ (∀ y z c, a ≤ y → y < b → a ≤ z → z < b → CHl s y c → CHl s z c → y = z) ∧ (∀ y c, a ≤ y → y < b → CHl s y c → ¬ T c) ∧ ∀ c, T c → (a : Int) ≤ c ∧ c < (b : Int)
theorem PP_0 : PPy s a a (fun _ => False) := ⟨fun y c h1 h2 => by omega, fun y z c h1 h2 => by omega, fun y c h1 h2 => by omega, fun c h => h.elim⟩
theorem PP_s {T T2 : Int → Prop} (h : PPy s a b T) (hs : ∀ c, T2 c → T c) : PPy s a b T2 := ⟨h.1, h.2.1, fun y c h1 h2 h3 h4 => h.2.2.1 y c h1 h2 h3 (hs c h4), fun c h4 => h.2.2.2 c (hs c h4)⟩
theorem PP_mg {m : Nat} {T T2 : Int → Prop} (h1 : PPy s a m T) (h2 : PPy s m b T2) (ha : a ≤ m) (hb : m ≤ b) : PPy s a b (fun c => T c ∨ T2 c) := by
  refine ⟨fun y c q1 q2 q3 => ?_, fun y z c q1 q2 q3 q4 q5 q6 => ?_, fun y c q1 q2 q3 q4 => ?_, fun c q => ?_⟩
  · by_cases w : y < m
    · exact h1.1 y c q1 w q3
    · have := h2.1 y c (by omega) q2 q3
      omega
  · by_cases w : y < m
    · have e1 := h1.1 y c q1 w q5
      by_cases v : z < m
      · exact h1.2.1 y z c q1 w q3 v q5 q6
      · have := h2.1 z c (by omega) q4 q6
        omega
    · have e1 := h2.1 y c (by omega) q2 q5
      by_cases v : z < m
      · have := h1.1 z c q3 v q6
        omega
      · exact h2.2.1 y z c (by omega) q2 (by omega) q4 q5 q6
  · by_cases w : y < m
    · have e1 := h1.1 y c q1 w q3
      rcases q4 with q4 | q4
      · exact h1.2.2.1 y c q1 w q3 q4
      · have := h2.2.2.2 c q4
        omega
    · have e1 := h2.1 y c (by omega) q2 q3
      rcases q4 with q4 | q4
      · have := h1.2.2.2 c q4
        omega
      · exact h2.2.2.1 y c (by omega) q2 q3 q4
  · rcases q with q | q
    · have := h1.2.2.2 c q
      omega
    · have := h2.2.2.2 c q
      omega
theorem PP_x {z : Nat} {T : Int → Prop} (h : PPy s a z T) (ha : a ≤ z) (hc : ∀ c, CHl s z c → T c) : PPy s a (z + 1) (fun c => c = (z : Int)) := by
  refine ⟨fun y c q1 q2 q3 => ?_, fun y w c q1 q2 q3 q4 q5 q6 => ?_, fun y c q1 q2 q3 q4 => ?_, fun c q => by omega⟩
  · by_cases e : y = z
    · subst e
      exact h.2.2.2 c (hc c q3)
    · exact h.1 y c q1 (by omega) q3
  · by_cases e : y = z
    · by_cases e2 : w = z
      · omega
      · subst e
        exact absurd (hc c q5) (h.2.2.1 w c q3 (by omega) q6)
    · by_cases e2 : w = z
      · subst e2
        exact absurd (hc c q6) (h.2.2.1 y c q1 (by omega) q5)
      · exact h.2.1 y w c q1 (by omega) q3 (by omega) q5 q6
  · by_cases e : y = z
    · subst e
      have := h.2.2.2 c (hc c q3)
      omega
    · have := h.1 y c q1 (by omega) q3
      omega
/-- those without a parent in it -/
def tpx (s : tab) (md n : Nat) (x : Int) : Int → Prop := fun c => if md ≤ 1 then c = x else ∃ i, (i < n ∨ i = n ∧ md = 5) ∧ c = nth s i x
/-- an E has no counters -/
def kzx (md k : Nat) : Nat := if md = 0 ∨ md = 2 then 0 else k
theorem kz_1 {md k : Nat} (h : md ≠ 0 ∧ md ≠ 2) : kzx md k = k := if_neg (by omega)
theorem kz_0 {md k : Nat} (h : md = 0 ∨ md = 2) : kzx md k = 0 := if_pos h
def QLx (s t : tab) (G : Gmx) : COt := fun md n a b x f l k0 k1 q c => (∃ L, CL s t G L md n a b x f l k0 k1 q c ∧ INJx s L a b (kzx md k0) (kzx md k1)) ∧ PPy s a b (tpx s md n x) ∧ (md = 2 ∨ md = 3 ∨ md = 4 → nth s n x = -1) ∧ (md = 5 → nth s (n + 1) x = -1)
theorem tp_1 {md n : Nat} {x c : Int} (h : md ≤ 1) : tpx s md n x c ↔ c = x := by
  unfold tpx
  rw [if_pos h]
theorem tp_2 {md n : Nat} {x c : Int} (h : 1 < md) : tpx s md n x c ↔ ∃ i, (i < n ∨ i = n ∧ md = 5) ∧ c = nth s i x := by
  unfold tpx
  rw [if_neg (by omega)]
end LABX
