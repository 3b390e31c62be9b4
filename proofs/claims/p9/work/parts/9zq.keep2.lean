/-! What holds between turns is kept: a part is done, waits; a PAR counts. -/
section KEEP2
variable {s s2 : tab} {Q Q2 : Nat → Nat} {act : Nat → Prop} {cx : Nat → Cxx} {anc : Nat → Nat → Prop} {p : Nat}
/-- a part is done -/
theorem J_tell (h : JGx s Q act cx anc) (ap : act p) (hn : NoC s act p) (e0 : ∀ k j, 99 ≤ k ∧ k ≤ 114 → s2 k j = s k j) (e3 : ∀ j, s2 143 j = s 143 j) (e4 : ∀ j, j ≠ p → s2 144 j = s 144 j) (e6 : ∀ j, j ≠ p → s2 146 j = s 146 j) (e5 : ∀ L, L < 12 → ((s2 152 L = s 152 L ∨ s2 152 L = -1) ∧ s2 152 L ≠ (p : Int)) ∧ (s2 153 L = s 153 L ∨ s2 153 L = -1) ∧ s2 153 L ≠ (p : Int)) (eQ : ∀ r, Q2 r = (if r = p then 0 else Q r) + (if s 143 p = (r : Int) then 1 else 0)) : ∃ cx2 anc2, JGx s2 Q2 (fun r => act r ∧ r ≠ p) cx2 anc2 := by
  obtain ⟨d0, d0b, d1, d2, d3, d4, d5, d6, d7, d8, d9, d10⟩ := h
  have h : JGx s Q act cx anc := ⟨d0, d0b, d1, d2, d3, d4, d5, d6, d7, d8, d9, d10⟩
  have noc : ∀ {r : Nat}, NoC s act r → NoC s2 (fun r => act r ∧ r ≠ p) r := fun k q hq => by
    rw [e3]
    exact k q hq.1
  have np : s 143 p ≠ (p : Int) := fun e => by
    rcases d2 p ap with z | ⟨y, z, _, z2, _⟩
    · rw [z] at e
      omega
    · have := (d3 y p z2).2.2.1
      rw [z] at e
      omega
  refine ⟨cx, fun z r => anc z r ∧ z ≠ p ∧ r ≠ p, fun r => by rw [e0 111 r (by omega)]; exact d0 r, by rw [e0 99 12 (by omega)]; exact d0b, ?_, ?_, ?_, ?_, ?_, ?_, ?_, ?_, ?_, ?_⟩
  · intro r hr
    exact ⟨EF_ext e0 (d1 r hr.1).1, PH_e e0 (e4 r hr.2) (e6 r hr.2) (d1 r hr.1).2⟩
  · intro r hr
    rw [e3]
    rcases d2 r hr.1 with k | ⟨y, k1, k2, k3, k4⟩
    · exact .inl k
    · have hy : y ≠ p := fun e => hn r hr.1 (e ▸ k1)
      refine .inr ⟨y, k1, ⟨k2, hy⟩, ⟨k3, hy, hr.2⟩, fun z hz => ?_⟩
      rcases k4 z hz.1 with q | q
      · exact .inl q
      · exact .inr ⟨q, hz.2.1, hy⟩
  · intro z r hz
    obtain ⟨a1, a2, a3, a4, q, a5, a6, a7⟩ := d3 z r hz.1
    have hq : q ≠ p := fun e => by
      rcases a7 with a7 | a7
      · exact hz.2.2 (a7.symm.trans e)
      · rw [e] at a7
        exact J_anc h hn a7
    refine ⟨⟨a1, hz.2.1⟩, ⟨a2, hz.2.2⟩, a3, by rw [e0 100 z (by omega)]; exact a4, q, ⟨a5, hq⟩, by rw [e3]; exact a6, ?_⟩
    rcases a7 with a7 | a7
    · exact .inl a7
    · exact .inr ⟨a7, hq, hz.2.2⟩
  · intro a b ha hb hab
    rcases d4 a b ha.1 hb.1 hab with k | k | k
    · exact .inl ⟨k, ha.2, hb.2⟩
    · exact .inr (.inl ⟨k, hb.2, ha.2⟩)
    · exact .inr (.inr k)
  · intro r hr
    rw [eQ] at hr ⊢
    by_cases e : r = p
    · rw [if_pos e, e, if_neg np] at hr
      omega
    · rw [if_neg e] at hr ⊢
      by_cases k : s 143 p = (r : Int)
      · rw [if_pos k] at hr ⊢
        have ar : act r := by
          rcases d2 p ap with z | ⟨y, z, z1, _⟩
          · rw [z] at k
            omega
          · rw [z] at k
            exact (Int.ofNat.inj k) ▸ z1
        refine ⟨⟨ar, e⟩, fun nb => ?_⟩
        rw [PB_e e0 (e4 r e)] at nb
        have q0 : Q r = 0 := Classical.byContradiction fun z => ((d5 r (by omega)).2 nb).2 p ap k
        refine ⟨by omega, fun q hq => ?_⟩
        rw [e3]
        intro z
        by_cases k2 : s 100 r = 312
        · have : ¬ 1 ≤ s 144 r := fun z => nb ⟨k2, z⟩
          exact d10 r ar k2 (by omega) p ap k
        · exact hq.2 (d8 r ar k2 q p hq.1 ap z k)
      · rw [if_neg k] at hr ⊢
        obtain ⟨a1, a2⟩ := d5 r (by omega)
        refine ⟨⟨a1, e⟩, fun nb => ?_⟩
        rw [PB_e e0 (e4 r e)] at nb
        exact ⟨by have := (a2 nb).1; omega, noc (a2 nb).2⟩
  · intro L hL
    have one : ∀ {k z z2 : Int}, WTx s Q act k L z → (z2 = z ∨ z2 = -1) → z2 ≠ (p : Int) → WTx s2 Q2 (fun r => act r ∧ r ≠ p) k L z2 := fun {k z z2} w hz hp => by
      rcases hz with rfl | rfl
      · refine ⟨w.1, fun h0 => ?_⟩
        obtain ⟨a1, a2, a3, a4, a5, a6⟩ := w.2 h0
        have z1 : z2.toNat ≠ p := fun e => by omega
        refine ⟨⟨a1, z1⟩, ?_, noc a3, by rw [e0 100 _ (by omega)]; exact a4, by rw [e0 101 _ (by omega)]; exact a5, by rw [e4 _ z1]; exact a6⟩
        rw [eQ, if_neg z1, if_neg (a3 p ap)]
        exact a2
      · exact ⟨Int.le_refl _, fun k => absurd k (by decide)⟩
    exact ⟨one (d6 L hL).1 (e5 L hL).1.1 (e5 L hL).1.2, one (d6 L hL).2 (e5 L hL).2.1 (e5 L hL).2.2⟩
  · intro y hy hb
    rw [PB_e e0 (e4 y hy.2)] at hb
    obtain ⟨l, l1, l2, l3⟩ := d7 y hy.1 hb
    by_cases k : s 143 p = (y : Int)
    · have hpl : p ∈ l := (l2 p).mpr ⟨ap, k⟩
      refine ⟨l.erase p, l1.erase p, fun q => ?_, ?_⟩
      · rw [l1.mem_erase_iff, l2 q, e3]
        exact ⟨fun z => ⟨⟨z.2.1, z.1⟩, z.2.2⟩, fun z => ⟨z.1.2, z.1.1, z.2⟩⟩
      · rw [List.length_erase_of_mem hpl, eQ, if_neg hy.2, if_pos k, e4 y hy.2, e0 102 y (by omega)]
        have := List.length_pos_of_mem hpl
        omega
    · refine ⟨l, l1, fun q => ?_, ?_⟩
      · rw [l2 q, e3]
        exact ⟨fun z => ⟨⟨z.1, fun e => k (e ▸ z.2)⟩, z.2⟩, fun z => ⟨z.1.1, z.2⟩⟩
      · rw [eQ, if_neg hy.2, if_neg k, e4 y hy.2, e0 102 y (by omega)]
        exact l3
  · intro y hy hky a b ha hb ea eb
    rw [e0 100 y (by omega)] at hky
    rw [e3] at ea eb
    exact d8 y hy.1 hky a b ha.1 hb.1 ea eb
  · intro a b ha hb ea eb
    rw [e3] at ea eb
    exact d9 a b ha.1 hb.1 ea eb
  · intro y hy hky h4
    rw [e0 100 y (by omega)] at hky
    rw [e4 y hy.2] at h4
    exact noc (d10 y hy.1 hky h4)
/-- a part waits on a line -/
theorem J_wait (h : JGx s Q act cx anc) (hp : 0 < Q p) (hn : NoC s act p) (hk : s 100 p = 406 ∨ s 100 p = 407) (h0 : 0 ≤ s 101 p) (e0 : ∀ k j, 99 ≤ k ∧ k ≤ 114 → s2 k j = s k j) (e3 : ∀ j, s2 143 j = s 143 j) (e4 : ∀ j, j ≠ p → s2 144 j = s 144 j) (e4p : 0 ≤ s2 144 p) (e6 : ∀ j, s2 146 j = s 146 j) (e5 : ∀ L, s2 152 L = (if s 100 p = 406 ∧ L = (s 101 p).toNat then (p : Int) else s 152 L) ∧ s2 153 L = (if s 100 p = 407 ∧ L = (s 101 p).toNat then (p : Int) else s 153 L)) (eQ : ∀ r, Q2 r = if r = p then 0 else Q r) : ∃ cx2 anc2, JGx s2 Q2 act cx2 anc2 := by
  obtain ⟨d0, d0b, d1, d2, d3, d4, d5, d6, d7, d8, d9, d10⟩ := h
  have ap := (d5 p hp).1
  have k3 : s 100 p ≠ 312 := by rcases hk with k | k <;> rw [k] <;> decide
  have noc : ∀ {r : Nat}, NoC s act r → NoC s2 act r := fun k q hq => by
    rw [e3]
    exact k q hq
  refine ⟨cx, anc, fun r => by rw [e0 111 r (by omega)]; exact d0 r, by rw [e0 99 12 (by omega)]; exact d0b, ?_, ?_, ?_, d4, ?_, ?_, ?_, ?_, ?_, ?_⟩
  · intro r ar
    refine ⟨EF_ext e0 (d1 r ar).1, ?_⟩
    by_cases e : r = p
    · rw [e]
      unfold PHx
      rw [e0 100 p (by omega)]
      refine ⟨fun k => ?_, fun k => ?_, fun k => ?_⟩ <;> rcases hk with q | q <;> exact absurd (q.symm.trans k) (by decide)
    · exact PH_e e0 (e4 r e) (e6 r) (d1 r ar).2
  · intro r ar
    rw [e3]
    exact d2 r ar
  · intro z r hz
    obtain ⟨a1, a2, a3, a4, q, a5, a6, a7⟩ := d3 z r hz
    exact ⟨a1, a2, a3, by rw [e0 100 z (by omega)]; exact a4, q, a5, by rw [e3]; exact a6, a7⟩
  · intro r hr
    by_cases e : r = p
    · rw [eQ, if_pos e] at hr
      omega
    · rw [eQ, if_neg e] at hr ⊢
      obtain ⟨a1, a2⟩ := d5 r hr
      refine ⟨a1, fun nb => ?_⟩
      rw [PB_e e0 (e4 r e)] at nb
      exact ⟨(a2 nb).1, noc (a2 nb).2⟩
  · intro L hL
    have old : ∀ {k z : Int}, WTx s Q act k L z → WTx s2 Q2 act k L z := fun {k z} w => by
      refine ⟨w.1, fun hz => ?_⟩
      obtain ⟨a1, a2, a3, a4, a5, a6⟩ := w.2 hz
      have z1 : z.toNat ≠ p := fun e => by rw [e] at a2; omega
      exact ⟨a1, by rw [eQ, if_neg z1]; exact a2, noc a3, by rw [e0 100 _ (by omega)]; exact a4, by rw [e0 101 _ (by omega)]; exact a5, by rw [e4 _ z1]; exact a6⟩
    have new : ∀ {k : Int}, s 100 p = k → L = (s 101 p).toNat → WTx s2 Q2 act k L (p : Int) := fun {k} hk hL => by
      refine ⟨by omega, fun _ => ?_⟩
      rw [Int.toNat_natCast]
      exact ⟨ap, by rw [eQ, if_pos rfl], noc hn, by rw [e0 100 _ (by omega)]; exact hk, by rw [e0 101 _ (by omega), hL, Int.toNat_of_nonneg h0], e4p⟩
    refine ⟨?_, ?_⟩
    · rw [(e5 L).1]
      by_cases z : s 100 p = 406 ∧ L = (s 101 p).toNat
      · rw [if_pos z]
        exact new z.1 z.2
      · rw [if_neg z]
        exact old (d6 L hL).1
    · rw [(e5 L).2]
      by_cases z : s 100 p = 407 ∧ L = (s 101 p).toNat
      · rw [if_pos z]
        exact new z.1 z.2
      · rw [if_neg z]
        exact old (d6 L hL).2
  · intro y ay hb
    by_cases e : y = p
    · rw [e] at hb
      exact absurd ((e0 100 p (by omega)).symm.trans hb.1) k3
    · rw [PB_e e0 (e4 y e)] at hb
      obtain ⟨l, l1, l2, l3⟩ := d7 y ay hb
      exact ⟨l, l1, fun q => by rw [l2 q, e3], by rw [eQ, if_neg e, e4 y e, e0 102 y (by omega)]; exact l3⟩
  · intro y ay hky a b ha hb ea eb
    rw [e0 100 y (by omega)] at hky
    rw [e3] at ea eb
    exact d8 y ay hky a b ha hb ea eb
  · intro a b ha hb ea eb
    rw [e3] at ea eb
    exact d9 a b ha hb ea eb
  · intro y ay hky h4
    rw [e0 100 y (by omega)] at hky
    by_cases e : y = p
    · exact absurd (e ▸ hky) k3
    · rw [e4 y e] at h4
      exact noc (d10 y ay hky h4)
/-- a part is ready again: it has been handed a value, or looks again -/
theorem J_rdy (h : JGx s Q act cx anc) (ap : act p) (hn : NoC s act p) (hk : s 100 p = 406 ∨ s 100 p = 407) (e0 : ∀ k j, 99 ≤ k ∧ k ≤ 114 → s2 k j = s k j) (e3 : ∀ j, s2 143 j = s 143 j) (e4 : ∀ j, j ≠ p → s2 144 j = s 144 j) (e6 : ∀ j, j ≠ p → s2 146 j = s 146 j) (e5 : ∀ L, L < 12 → ((s2 152 L = s 152 L ∨ s2 152 L = -1) ∧ s2 152 L ≠ (p : Int)) ∧ (s2 153 L = s 153 L ∨ s2 153 L = -1) ∧ s2 153 L ≠ (p : Int)) (eQ : ∀ r, Q2 r = if r = p then 1 else Q r) : ∃ cx2 anc2, JGx s2 Q2 act cx2 anc2 := by
  obtain ⟨d0, d0b, d1, d2, d3, d4, d5, d6, d7, d8, d9, d10⟩ := h
  have k3 : s 100 p ≠ 312 := by rcases hk with k | k <;> rw [k] <;> decide
  have noc : ∀ {r : Nat}, NoC s act r → NoC s2 act r := fun k q hq => by
    rw [e3]
    exact k q hq
  refine ⟨cx, anc, fun r => by rw [e0 111 r (by omega)]; exact d0 r, by rw [e0 99 12 (by omega)]; exact d0b, ?_, ?_, ?_, d4, ?_, ?_, ?_, ?_, ?_, ?_⟩
  · intro r ar
    refine ⟨EF_ext e0 (d1 r ar).1, ?_⟩
    by_cases e : r = p
    · rw [e]
      unfold PHx
      rw [e0 100 p (by omega)]
      refine ⟨fun k => ?_, fun k => ?_, fun k => ?_⟩ <;> rcases hk with q | q <;> exact absurd (q.symm.trans k) (by decide)
    · exact PH_e e0 (e4 r e) (e6 r e) (d1 r ar).2
  · intro r ar
    rw [e3]
    exact d2 r ar
  · intro z r hz
    obtain ⟨a1, a2, a3, a4, q, a5, a6, a7⟩ := d3 z r hz
    exact ⟨a1, a2, a3, by rw [e0 100 z (by omega)]; exact a4, q, a5, by rw [e3]; exact a6, a7⟩
  · intro r hr
    by_cases e : r = p
    · rw [eQ, if_pos e, e]
      exact ⟨ap, fun _ => ⟨rfl, noc hn⟩⟩
    · rw [eQ, if_neg e] at hr ⊢
      obtain ⟨a1, a2⟩ := d5 r hr
      refine ⟨a1, fun nb => ?_⟩
      rw [PB_e e0 (e4 r e)] at nb
      exact ⟨(a2 nb).1, noc (a2 nb).2⟩
  · intro L hL
    have one : ∀ {k z z2 : Int}, WTx s Q act k L z → (z2 = z ∨ z2 = -1) → z2 ≠ (p : Int) → WTx s2 Q2 act k L z2 := fun {k z z2} w hz hp => by
      rcases hz with rfl | rfl
      · refine ⟨w.1, fun h0 => ?_⟩
        obtain ⟨a1, a2, a3, a4, a5, a6⟩ := w.2 h0
        have z1 : z2.toNat ≠ p := fun e => by omega
        exact ⟨a1, by rw [eQ, if_neg z1]; exact a2, noc a3, by rw [e0 100 _ (by omega)]; exact a4, by rw [e0 101 _ (by omega)]; exact a5, by rw [e4 _ z1]; exact a6⟩
      · exact ⟨Int.le_refl _, fun k => absurd k (by decide)⟩
    exact ⟨one (d6 L hL).1 (e5 L hL).1.1 (e5 L hL).1.2, one (d6 L hL).2 (e5 L hL).2.1 (e5 L hL).2.2⟩
  · intro y ay hb
    by_cases e : y = p
    · rw [e] at hb
      exact absurd ((e0 100 p (by omega)).symm.trans hb.1) k3
    · rw [PB_e e0 (e4 y e)] at hb
      obtain ⟨l, l1, l2, l3⟩ := d7 y ay hb
      exact ⟨l, l1, fun q => by rw [l2 q, e3], by rw [eQ, if_neg e, e4 y e, e0 102 y (by omega)]; exact l3⟩
  · intro y ay hky a b ha hb ea eb
    rw [e0 100 y (by omega)] at hky
    rw [e3] at ea eb
    exact d8 y ay hky a b ha hb ea eb
  · intro a b ha hb ea eb
    rw [e3] at ea eb
    exact d9 a b ha hb ea eb
  · intro y ay hky h4
    rw [e0 100 y (by omega)] at hky
    by_cases e : y = p
    · exact absurd (e ▸ hky) k3
    · rw [e4 y e] at h4
      exact noc (d10 y ay hky h4)
/-- a begun PAR counts a branch that is done -/
theorem J_count (h : JGx s Q act cx anc) (hp : 0 < Q p) (hb : PBg s p) (hs : s2 = up2 s 144 p (s 144 p + 1)) (eQ : ∀ r, Q2 r = if r = p then Q p - 1 else Q r) : ∃ cx2 anc2, JGx s2 Q2 act cx2 anc2 := by
  obtain ⟨d0, d0b, d1, d2, d3, d4, d5, d6, d7, d8, d9, d10⟩ := h
  have o : ∀ k j, ¬ (k = 144 ∧ j = p) → s2 k j = s k j := fun k j z => by
    rw [hs]
    exact if_neg z
  have o4 : s2 144 p = s 144 p + 1 := by
    rw [hs]
    exact up_self
  have e0 : ∀ k j, 99 ≤ k ∧ k ≤ 114 → s2 k j = s k j := fun k j z => o k j (by omega)
  have e3 : ∀ j, s2 143 j = s 143 j := fun j => o 143 j (by omega)
  have ap := (d5 p hp).1
  have h1 := hb.2
  have hb2 : PBg s2 p := ⟨(e0 100 p (by omega)).trans hb.1, by omega⟩
  have noc : ∀ {r : Nat}, NoC s act r → NoC s2 act r := fun k q hq => by
    rw [e3]
    exact k q hq
  refine ⟨cx, anc, fun r => by rw [e0 111 r (by omega)]; exact d0 r, by rw [e0 99 12 (by omega)]; exact d0b, ?_, ?_, ?_, d4, ?_, ?_, ?_, ?_, ?_, ?_⟩
  · intro r ar
    refine ⟨EF_ext e0 (d1 r ar).1, ?_⟩
    by_cases e : r = p
    · rw [e]
      unfold PHx
      rw [hb2.1]
      exact ⟨fun k => absurd k (by decide), fun k => absurd k (by decide), fun k => absurd k (by decide)⟩
    · exact PH_e e0 (o 144 r (fun z => e z.2)) (o 146 r (by omega)) (d1 r ar).2
  · intro r ar
    rw [e3]
    exact d2 r ar
  · intro z r hz
    obtain ⟨a1, a2, a3, a4, q, a5, a6, a7⟩ := d3 z r hz
    exact ⟨a1, a2, a3, by rw [e0 100 z (by omega)]; exact a4, q, a5, by rw [e3]; exact a6, a7⟩
  · intro r hr
    by_cases e : r = p
    · rw [e]
      exact ⟨ap, fun k => absurd hb2 k⟩
    · rw [eQ, if_neg e] at hr ⊢
      obtain ⟨a1, a2⟩ := d5 r hr
      refine ⟨a1, fun nb => ?_⟩
      rw [PB_e e0 (o 144 r (fun z => e z.2))] at nb
      exact ⟨(a2 nb).1, noc (a2 nb).2⟩
  · intro L hL
    have old : ∀ {k z : Int}, WTx s Q act k L z → WTx s2 Q2 act k L z := fun {k z} w => by
      refine ⟨w.1, fun hz => ?_⟩
      obtain ⟨a1, a2, a3, a4, a5, a6⟩ := w.2 hz
      have z1 : z.toNat ≠ p := fun e => by rw [e] at a2; omega
      exact ⟨a1, by rw [eQ, if_neg z1]; exact a2, noc a3, by rw [e0 100 _ (by omega)]; exact a4, by rw [e0 101 _ (by omega)]; exact a5, by rw [o 144 _ (fun q => z1 q.2)]; exact a6⟩
    rw [o 152 L (by omega), o 153 L (by omega)]
    exact ⟨old (d6 L hL).1, old (d6 L hL).2⟩
  · intro y ay hby
    by_cases e : y = p
    · subst e
      obtain ⟨l, l1, l2, l3⟩ := d7 y ay hb
      refine ⟨l, l1, fun q => by rw [l2 q, e3], ?_⟩
      rw [eQ, if_pos rfl, o4, e0 102 y (by omega)]
      omega
    · rw [PB_e e0 (o 144 y (fun z => e z.2))] at hby
      obtain ⟨l, l1, l2, l3⟩ := d7 y ay hby
      exact ⟨l, l1, fun q => by rw [l2 q, e3], by rw [eQ, if_neg e, o 144 y (fun z => e z.2), e0 102 y (by omega)]; exact l3⟩
  · intro y ay hky a b ha hb ea eb
    rw [e0 100 y (by omega)] at hky
    rw [e3] at ea eb
    exact d8 y ay hky a b ha hb ea eb
  · intro a b ha hb ea eb
    rw [e3] at ea eb
    exact d9 a b ha hb ea eb
  · intro y ay hky h4
    rw [e0 100 y (by omega)] at hky
    by_cases e : y = p
    · rw [e, o4] at h4
      omega
    · rw [o 144 y (fun z => e z.2)] at h4
      exact noc (d10 y ay hky h4)
end KEEP2
