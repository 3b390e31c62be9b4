/-! run: what it keeps, what falls. -/
def l3 (x y : Nat × Nat × Nat) : Prop := x.1 < y.1 ∨ x.1 = y.1 ∧ (x.2.1 < y.2.1 ∨ x.2.1 = y.2.1 ∧ x.2.2 < y.2.2)
theorem l3_ind {P : Nat × Nat × Nat → Prop} (h : ∀ t, (∀ u, l3 u t → P u) → P t) : ∀ t, P t := by
  rintro ⟨a, m, c⟩
  induction a using Nat.strongRecOn generalizing m c with | ind a iha => ?_
  induction m using Nat.strongRecOn generalizing c with | ind m ihm => ?_
  induction c using Nat.strongRecOn with | ind c ihc => ?_
  refine h _ ?_
  rintro ⟨a2, m2, c2⟩ (q | ⟨q1, q | ⟨q2, q⟩⟩)
  · exact iha a2 q m2 c2
  · cases q1
    exact ihm m2 q c2
  · cases q1
    cases q2
    exact ihc c2 q
def ms (r : tab) (G : Nat → gB) : Nat × Nat × Nat := ((r 170 54 - r 170 53).toNat, mu r G, cans r)
def RV (C : Nat) (F : Ph) (na : Nat) (s0 s : rS) : Prop := s.2 = s0.2 ∧ RF s.1 ∧ RX s0.1 s.1 ∧ MC C F na s.1
def RQz (C : Nat) (F : Ph) (na : Nat) (s0 : rS) (G : Nat → gB) (own : Nat → Nat → Prop) (s : rS) : Prop := RV C F na s0 s ∧ s.1 170 52 = 2 ∧ RI F s.1 G own ∧ (0 ≤ s.1 170 53 ∧ s.1 170 53 ≤ s.1 170 54 ∧ s.1 170 54 ≤ 20000)
def RU (C : Nat) (F : Ph) (na : Nat) (s0 : rS) : rS → hm_Out → Prop := fun s2 out => (∃ z : Int, out = some (some (vi z))) ∧ RV C F na s0 s2 ∧ (s2.1 170 52 = 1 ∨ s2.1 170 52 = 3 ∨ s2.1 170 52 = 2 ∧ ∃ (G : Nat → gB) (own : Nat → Nat → Prop), RI F s2.1 G own)
theorem up_same {r : tab} {k j : Nat} {z : Int} (h : r k j = z) : up2 r k j z = r := by
  funext a c
  by_cases e : a = k ∧ c = j
  · obtain ⟨rfl, rfl⟩ := e
    rw [up_self, h]
  · exact if_neg e
section RUNS
variable {C na b : Nat} {F : Ph} {G : Nat → gB} {own : Nat → Nat → Prop} {s0 s s2 : rS} {r r2 r3 : tab}
theorem MC_RX (hC : C = 177 ∨ C = 186) (h : MC C F na r) (hX : RX r r2) (hH : HD r2) : MC C F na r2 := by
  obtain ⟨a1, a2, a3, a4, a5⟩ := h
  have e1 : r2 (C + 1) = r (C + 1) := funext fun j => hX _ _ (by unfold RS; omega)
  have e3 : ∀ a, r2 (C + 3) a = r (C + 3) a := fun j => hX _ _ (by unfold RS; omega)
  exact ⟨(hX _ _ (by unfold RS; omega)).trans a1, by rw [e1]; exact a2, a3, fun a ha => by rw [e3]; exact a4 a ha, hH⟩
theorem RV_tr (hC : C = 177 ∨ C = 186) (h : RV C F na s0 s) (hc : s2.2 = s.2) (hX : RX s.1 s2.1) (hH : HD s2.1) : RV C F na s0 s2 := ⟨hc.trans h.1, RX_RF hX h.2.1, RX_tr h.2.2.1 hX, MC_RX hC h.2.2.2 hX hH⟩
theorem RV_up (hC : C = 177 ∨ C = 186) {j : Nat} {z : Int} (h : RV C F na s0 s) (hj : 52 ≤ j ∧ j ≤ 55) : RV C F na s0 (up2 s.1 170 j z, s.2) := RV_tr (s2 := (up2 s.1 170 j z, s.2)) hC h rfl (fun k i e => if_neg (fun q => e (by unfold RS; omega))) (HD_at h.2.2.2.2.2.2.2 (fun i => by show up2 s.1 170 j z 1630 i = _; exact if_neg (by omega)))
/-- behind a step of one branch -/
theorem RQ_ON (hC : C = 177 ∨ C = 186) {out : hm_Out} (h : RQz C F na s0 G own s) (hO : ON F G b s s2 out) : (RV C F na s0 s2 ∧ (s2.1 170 52 = 1 ∨ s2.1 170 52 = 3)) ∨ ∃ (G2 : Nat → gB) (own2 : Nat → Nat → Prop), RQz C F na s0 G2 own2 s2 ∧ l3 (ms s2.1 G2) (ms s.1 G) ∧ s.1 170 55 ≤ s2.1 170 55 := by
  obtain ⟨_, hc, _, hX, hH, hO⟩ := hO
  obtain ⟨hV, hst, hI, hs⟩ := h
  have hV2 := RV_tr hC hV hc hX hH
  rcases hO with h3 | ⟨h2, h54, G2, own2, hI2, h55, hm⟩
  · exact .inl ⟨hV2, h3.symm⟩
  · refine .inr ⟨G2, own2, ⟨hV2, h2, hI2, by omega⟩, ?_, h55⟩
    show (s2.1 170 54 - s2.1 170 53).toNat < (s.1 170 54 - s.1 170 53).toNat ∨ (s2.1 170 54 - s2.1 170 53).toNat = (s.1 170 54 - s.1 170 53).toNat ∧ (mu s2.1 G2 < mu s.1 G ∨ mu s2.1 G2 = mu s.1 G ∧ cans s2.1 < cans s.1)
    omega
/-- behind a waking -/
theorem RQ_WK (hC : C = 177 ∨ C = 186) {G2 : Nat → gB} (h : RQz C F na s0 G own s) (hc : s2.2 = s.2) (hX : RX s.1 s2.1) (h70 : ∀ j, s2.1 170 j = s.1 170 j) (h30 : ∀ i, s2.1 1630 i = s.1 1630 i) (hI2 : RI F (up2 s2.1 206 b 1) G2 own) (hm : mu (up2 s2.1 206 b 1) G2 < mu s.1 G ∨ mu (up2 s2.1 206 b 1) G2 = mu s.1 G ∧ cans (up2 s2.1 206 b 1) = cans s.1) : RQz C F na s0 G2 own (up2 s2.1 206 b 1, s2.2) ∧ ∀ u, l3 u (ms (up2 s2.1 206 b 1) G2) → l3 u (ms s.1 G) := by
  obtain ⟨hV, hst, hI, hs⟩ := h
  have e : ∀ j, up2 s2.1 206 b 1 170 j = s.1 170 j := fun j => (up_nk (by omega)).trans (h70 j)
  refine ⟨⟨RV_tr (s2 := (up2 s2.1 206 b 1, s2.2)) hC hV hc (RX_up hX (by unfold RS; omega)) (HD_at hV.2.2.2.2.2.2.2 (fun i => by show up2 s2.1 206 b 1 1630 i = _; exact (if_neg (by omega)).trans (h30 i))), (e 52).trans hst, hI2, by show 0 ≤ up2 s2.1 206 b 1 170 53 ∧ up2 s2.1 206 b 1 170 53 ≤ up2 s2.1 206 b 1 170 54 ∧ up2 s2.1 206 b 1 170 54 ≤ 20000; rw [e, e]; exact hs⟩, ?_⟩
  rintro ⟨a, m, c⟩ hu
  have hu2 : a < (up2 s2.1 206 b 1 170 54 - up2 s2.1 206 b 1 170 53).toNat ∨ a = (up2 s2.1 206 b 1 170 54 - up2 s2.1 206 b 1 170 53).toNat ∧ (m < mu (up2 s2.1 206 b 1) G2 ∨ m = mu (up2 s2.1 206 b 1) G2 ∧ c < cans (up2 s2.1 206 b 1)) := hu
  rw [e, e] at hu2
  show a < (s.1 170 54 - s.1 170 53).toNat ∨ a = (s.1 170 54 - s.1 170 53).toNat ∧ (m < mu s.1 G ∨ m = mu s.1 G ∧ c < cans s.1)
  omega
/-- only the numbers of run itself change -/
theorem RI_same (h : RI F r G own) (e : ∀ k, k ≠ 170 → r2 k = r k) (e55 : r2 170 55 = r 170 55) : RI F r2 G own := by
  have e5 := e 205 (by omega)
  have e6 := e 206 (by omega)
  have e7 := e 207 (by omega)
  have e8 := e 208 (by omega)
  have e9 := e 209 (by omega)
  have e10 := e 210 (by omega)
  have e11 := e 211 (by omega)
  have eb : ∀ b, r2 (921 + b) = r (921 + b) := fun b => e _ (by omega)
  simp only [RI, OW, KD, BI, B2, lv1, kids, e5, e6, e7, e8, e9, e10, e11, eb, e55] at h ⊢
  exact h
end RUNS
