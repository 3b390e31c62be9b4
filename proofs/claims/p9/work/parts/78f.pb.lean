/-! The branches of a par. -/
def PB (na : Nat) (f : Nat → Int) (G : Ph) (nr : Nat) (ko : Nat → Nat) (m q mt k0 kt CC : Nat) : Prop := ∃ st en ks ms : Nat → Nat, ks 0 = k0 ∧ ks q = kt ∧ (∀ i, i < q → f (m + 3 + i) = (st i : Int) ∧ m + 11 ≤ st i ∧ st i ≤ en i ∧ en i + 1 ≤ mt ∧ f (en i) = 20 ∧ ks i + 1 ≤ ks (i + 1) ∧ SG na f G (st i) (en i) 0 0 2000 nr (SZ ko (ms i) (ks i + 1) (ks (i + 1))) ∧ ∀ b, (ms i).testBit b = true → CC.testBit b = true ∧ b < nr) ∧ ∀ i j, i < j → j < q → ∀ b, (ms i).testBit b = true → ¬ (ms j).testBit b = true
section PBS
variable {na nr m q mt me k0 kt k1 CC cm : Nat} {f g : Nat → Int} {G : Ph} {ko : Nat → Nat}
theorem PB_nil : PB na f G nr ko m 0 mt k0 k0 0 := ⟨fun _ => 0, fun _ => 0, fun _ => k0, fun _ => 0, rfl, rfl, fun i hi => absurd hi (by omega), fun i j hi hj => absurd hj (by omega)⟩
theorem PB_agr (hg : ∀ p, m + 3 ≤ p → p < m + 3 + q → g p = f p) (hg2 : ∀ p, m + 11 ≤ p → p < mt → g p = f p) (h : PB na f G nr ko m q mt k0 kt CC) : PB na g G nr ko m q mt k0 kt CC := by
  obtain ⟨st, en, ks, ms, h1, h2, h3, h4⟩ := h
  refine ⟨st, en, ks, ms, h1, h2, fun i hi => ?_, h4⟩
  obtain ⟨a1, a2, a3, a4, a5, a6, a7, a8⟩ := h3 i hi
  exact ⟨(hg _ (by omega) (by omega)).trans a1, a2, a3, a4, (hg2 _ (by omega) (by omega)).trans a5, a6, SG_agr (fun p p1 p2 => hg2 p (by omega) (by omega)) a7, a8⟩
theorem PB_step (h : PB na f G nr ko m q mt k0 kt CC) (hl : f (m + 3 + q) = (mt : Int)) (hmt : m + 11 ≤ mt) (hme : mt ≤ me) (ho : f me = 20) (hk : kt + 1 ≤ k1) (hs : SG na f G mt me 0 0 2000 nr (SZ ko cm (kt + 1) k1)) (hb : ∀ b, cm.testBit b = true → b < nr) (hd : CC &&& cm = 0) : PB na f G nr ko m (q + 1) (me + 1) k0 k1 (CC ||| cm) := by
  obtain ⟨st, en, ks, ms, h1, h2, h3, h4⟩ := h
  have hdis : ∀ b, CC.testBit b = true → ¬ cm.testBit b = true := by
    intro b e1 e2
    have : (CC &&& cm).testBit b = true := by rw [Nat.testBit_and, e1, e2]; rfl
    rw [hd] at this
    simp at this
  refine ⟨gup st q mt, gup en q me, gup ks (q + 1) k1, gup ms q cm, ?_, gup_self, fun i hi => ?_, fun i j hij hj b => ?_⟩
  · rw [gup_ne (by omega)]; exact h1
  · by_cases e : i = q
    · subst e
      rw [gup_self, gup_self, gup_self, gup_self, gup_ne (show i ≠ i + 1 by omega), h2]
      exact ⟨hl, hmt, hme, by omega, ho, hk, hs, fun b q1 => ⟨by rw [Nat.testBit_or, q1, Bool.or_true], hb b q1⟩⟩
    · rw [gup_ne e, gup_ne e, gup_ne e, gup_ne (show i ≠ q + 1 by omega), gup_ne (show i + 1 ≠ q + 1 by omega)]
      obtain ⟨a1, a2, a3, a4, a5, a6, a7, a8⟩ := h3 i (by omega)
      exact ⟨a1, a2, a3, by omega, a5, a6, a7, fun b q1 => ⟨by rw [Nat.testBit_or, (a8 b q1).1]; rfl, (a8 b q1).2⟩⟩
  · rw [gup_ne (show i ≠ q by omega)]
    by_cases e : j = q
    · subst e
      rw [gup_self]
      exact fun q1 => hdis b ((h3 i (by omega)).2.2.2.2.2.2.2 b q1).1
    · rw [gup_ne e]
      exact h4 i j hij (by omega) b
theorem ks_mono {ks : Nat → Nat} : ∀ (q : Nat), (∀ i, i < q → ks i + 1 ≤ ks (i + 1)) → ∀ i j, i ≤ j → j ≤ q → ks i + (j - i) ≤ ks j
  | 0, _, i, j, h1, h2 => by rw [show i = j by omega]; omega
  | q + 1, h, i, j, h1, h2 => by
    by_cases e : j = q + 1
    · by_cases e2 : i = j
      · rw [e2]; omega
      · have := ks_mono q (fun i hi => h i (by omega)) i q (by omega) (by omega)
        have := h q (by omega)
        subst e
        omega
    · exact ks_mono q (fun i hi => h i (by omega)) i j h1 (by omega)
theorem PB_par {cl T h0 : Nat} (h : PB na f G nr ko m q mt k0 kt CC) (hp : f (m + 1) = 19) (hn : f (m + 2) = (q : Int)) (hn1 : 1 ≤ q) (hn6 : q ≤ 6) (hj : f (m + 9) = 9) (he : f (m + 10) = (mt : Int)) (hb : mt ≤ 24000) (hm : m + 11 ≤ mt) (hr : nr ≤ 12) (hko : ko nr ≤ k0) (hkm : ∀ i j, i ≤ j → j ≤ nr → ko i ≤ ko j) (hcl : ∀ b, CC.testBit b = true → cl.testBit b = true) : SH na f G (m + 1) mt h0 h0 T nr (SZ ko cl k0 kt) := by
  obtain ⟨st, en, ks, ms, h1, h2, h3, h4⟩ := h
  have km := ks_mono q (fun i hi => (h3 i hi).2.2.2.2.2.1)
  have zlt : ∀ i, i < q → ∀ x, ZM ko (ms i) x → x < k0 := by
    rintro i hi x ⟨b, b1, b2, b3⟩
    have b4 := ((h3 i hi).2.2.2.2.2.2.2 b b1).2
    have b5 := hkm (b + 1) nr (by omega) (Nat.le_refl _)
    omega
  have kge : ∀ i, i ≤ q → k0 ≤ ks i := fun i hi => by have := km 0 i (by omega) hi; omega
  refine SH_par (n := q) (st := st) (en := en) (ow := ks) (zi := fun i => SZ ko (ms i) (ks i + 1) (ks (i + 1))) hp hn hn1 hn6 (fun i hi => by rw [show m + 1 + 2 + i = m + 3 + i by omega]; exact (h3 i hi).1) hj he hb (by omega) hr (fun i hi => ?_) (fun i hi => ?_) (fun i j hi hj hij => ?_)
  · obtain ⟨a1, a2, a3, a4, a5, a6, a7, a8⟩ := h3 i hi
    exact ⟨by omega, a3, a4, a5, a7⟩
  · have g1 := kge i (by omega)
    have g2 := km (i + 1) q (by omega) (Nat.le_refl _)
    have g3 := (h3 i hi).2.2.2.2.2.1
    refine ⟨.inl ⟨by omega, by omega⟩, ?_, ?_⟩
    · rintro (⟨e1, e2⟩ | e)
      · omega
      · have := zlt i hi _ e; omega
    · rintro x (⟨e1, e2⟩ | ⟨b, e1, e2⟩)
      · exact .inl ⟨by omega, by omega⟩
      · exact .inr ⟨b, hcl b ((h3 i hi).2.2.2.2.2.2.2 b e1).1, e2⟩
  · have ord : ks i + 1 ≤ ks (i + 1) ∧ ks j + 1 ≤ ks (j + 1) ∧ (ks (i + 1) ≤ ks j ∨ ks (j + 1) ≤ ks i) := by
      refine ⟨(h3 i hi).2.2.2.2.2.1, (h3 j hj).2.2.2.2.2.1, ?_⟩
      by_cases e : i < j
      · left; have := km (i + 1) j (by omega) (by omega); omega
      · right; have := km (j + 1) i (by omega) (by omega); omega
    have gi := kge i (by omega)
    have gj := kge j (by omega)
    have gi1 := kge (i + 1) (by omega)
    refine ⟨by omega, ?_, ?_⟩
    · rintro (⟨e1, e2⟩ | e)
      · omega
      · have := zlt j hj _ e; omega
    · rintro x (⟨e1, e2⟩ | e) (⟨e3, e4⟩ | e5)
      · omega
      · have := zlt j hj _ e5; omega
      · have := zlt i hi _ e; omega
      · obtain ⟨b, b1, b2, b3⟩ := e
        obtain ⟨c, c1, c2, c3⟩ := e5
        have b4 := ((h3 i hi).2.2.2.2.2.2.2 b b1).2
        have c4 := ((h3 j hj).2.2.2.2.2.2.2 c c1).2
        have hbc : b = c := by
          by_cases l1 : b < c
          · have := hkm (b + 1) c (by omega) (by omega); omega
          · by_cases l2 : c < b
            · have := hkm (c + 1) b (by omega) (by omega); omega
            · omega
        subst hbc
        by_cases e : i < j
        · exact h4 i j e hj b b1 c1
        · exact h4 j i (by omega) hi b c1 b1
end PBS
theorem wr_ior01 {M : hm_M} {pc row d : Nat} {lv : List (Nat × Value)} {st : List Value} {s : rS} {Q : rS → hm_Out → Prop} {a b : Int} (ho : (hm_Mi M)[pc]? = some (some (.ior, 1, 3, row))) (ha : 0 ≤ a ∧ a ≤ 1) (hb : 0 ≤ b ∧ b ≤ 1) (kk : ∀ z : Int, 0 ≤ z ∧ z ≤ 1 ∧ (z = 0 → a = 0 ∧ b = 0) → wr d M (pc + 1) lv (vi z :: st) s Q) : wr d M pc lv (vi b :: vi a :: st) s Q := by
  have h1 : a = 0 ∨ a = 1 := by omega
  have h2 : b = 0 ∨ b = 1 := by omega
  have key : ∃ z : Int, Int32.ofInt a ||| Int32.ofInt b = Int32.ofInt z ∧ 0 ≤ z ∧ z ≤ 1 ∧ (z = 0 → a = 0 ∧ b = 0) := by
    rcases h1 with rfl | rfl <;> rcases h2 with rfl | rfl
    · exact ⟨0, by decide, by omega⟩
    · exact ⟨1, by decide, by omega⟩
    · exact ⟨1, by decide, by omega⟩
    · exact ⟨1, by decide, by omega⟩
  obtain ⟨z, hz, h⟩ := key
  refine wr_go (fun call g => ?_) (kk z h)
  rw [hs_of ho]
  show some (Sum.inl (pc + 1, lv, Value.int (Int32.ofInt a ||| Int32.ofInt b) :: st, g)) = _
  rw [hz]
theorem MB_zero {nr : Nat} : MB nr 0 := ⟨0, rfl, fun i h => by simp at h⟩
