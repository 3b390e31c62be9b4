/-! What holds between turns is kept: a PAR begins its branches. -/
section KEEP3
variable {s s2 : tab} {Q Q2 : Nat → Nat} {act : Nat → Prop} {cx : Nat → Cxx} {anc : Nat → Nat → Prop} {p : Nat}
theorem J_par (h : JGx s Q act cx anc) (hp : 0 < Q p) (hn : NoC s act p) (hk : s 100 p = 312) {n : Nat} (hn2 : s 102 p = (n : Int)) {m : Nat → Nat} {cs : Nat → Cxx} (hm : ∀ i, i < n → m i < p ∧ EF s (cs i) (m i) ∧ SBx (cs i) (cx p) ∧ ¬ (cs i).1 p) (hcs : ∀ i j, i < n → j < n → i ≠ j → NCx (cs i) (cs j)) (e0 : ∀ k j, 99 ≤ k ∧ k ≤ 114 → s2 k j = s k j) (e3 : ∀ i, i < n → s2 143 (m i) = (p : Int)) (e3o : ∀ j, (∀ i, i < n → j ≠ m i) → s2 143 j = s 143 j) (e4 : ∀ i, i < n → s2 144 (m i) = -1) (e4p : s2 144 p = 1) (e4o : ∀ j, j ≠ p → (∀ i, i < n → j ≠ m i) → s2 144 j = s 144 j) (e6 : ∀ j, s2 146 j = s 146 j) (e5 : ∀ L, s2 152 L = s 152 L ∧ s2 153 L = s 153 L) (eQ : ∀ i, i < n → Q2 (m i) = Q (m i) + 1) (eQp : Q2 p = 0) (eQo : ∀ r, r ≠ p → (∀ i, i < n → r ≠ m i) → Q2 r = Q r) : ∃ cx2 anc2, JGx s2 Q2 (fun r => act r ∨ ∃ i, i < n ∧ r = m i) cx2 anc2 := by
  obtain ⟨d0, d0b, d1, d2, d3, d4, d5, d6, d7, d8, d9, d10⟩ := h
  have h : JGx s Q act cx anc := ⟨d0, d0b, d1, d2, d3, d4, d5, d6, d7, d8, d9, d10⟩
  have ap := (d5 p hp).1
  have nc : ∀ {i : Nat}, i < n → ¬ act (m i) := fun {i} hi ac => by
    obtain ⟨m1, m2, m3, m4⟩ := hm i hi
    rcases d4 (m i) p ac ap (by omega) with k | k | k
    · have := (d3 _ p k).2.2.1
      omega
    · exact J_anc h hn k
    · exact k.1 (m i) ⟨EF_p (d1 _ ac).1, m3.1 _ (EF_p m2)⟩
  have inj : ∀ {i j : Nat}, i < n → j < n → m i = m j → i = j := fun {i j} hi hj e => Classical.byContradiction fun k => (hcs i j hi hj k).1 (m i) ⟨EF_p (hm i hi).2.1, by rw [e]; exact EF_p (hm j hj).2.1⟩
  have ne : ∀ {r : Nat}, act r → ∀ i, i < n → r ≠ m i := fun ar i hi e => nc hi (e ▸ ar)
  have mp : ∀ {i : Nat}, i < n → m i ≠ p := fun hi e => by have := (hm _ hi).1; omega
  have pm : ∀ i, i < n → p ≠ m i := fun i hi e => mp hi e.symm
  have qc : ∀ {i : Nat}, i < n → Q (m i) = 0 := fun hi => Classical.byContradiction fun k => nc hi (d5 _ (by omega)).1
  have s3 : ∀ {r : Nat}, act r → s2 143 r = s 143 r := fun ar => e3o _ (ne ar)
  obtain ⟨cx', hcx1, hcx2⟩ : ∃ cx' : Nat → Cxx, (∀ i, i < n → cx' (m i) = cs i) ∧ ∀ r, (∀ i, i < n → r ≠ m i) → cx' r = cx r := by
    refine ⟨fun r => @dite Cxx (∃ i, i < n ∧ r = m i) (Classical.propDecidable _) (fun k => cs k.choose) (fun _ => cx r), fun i hi => ?_, fun r hr => ?_⟩
    · have k : ∃ j, j < n ∧ m i = m j := ⟨i, hi, rfl⟩
      dsimp only
      rw [dif_pos k]
      exact congrArg cs (inj k.choose_spec.1 hi k.choose_spec.2.symm)
    · exact dif_neg (fun k => hr _ k.choose_spec.1 k.choose_spec.2)
  have cx2 : ∀ {r : Nat}, act r → cx' r = cx r := fun ar => hcx2 _ (ne ar)
  have chm : ∀ {r i : Nat}, act r → i < n → s 143 r ≠ (m i : Int) := fun {r i} ar hi k => by
    rcases d2 _ ar with z | ⟨y, z, ay, _⟩
    · rw [z] at k
      omega
    · rw [z] at k
      exact nc hi ((Int.ofNat.inj k) ▸ ay)
  have noc : ∀ {r : Nat}, r ≠ p → NoC s act r → NoC s2 (fun r => act r ∨ ∃ i, i < n ∧ r = m i) r := fun hr k q hq => by
    rcases hq with aq | ⟨i, hi, rfl⟩
    · rw [s3 aq]
      exact k q aq
    · rw [e3 i hi]
      exact fun e => hr (Int.ofNat.inj e).symm
  have nocc : ∀ {i : Nat}, i < n → NoC s2 (fun r => act r ∨ ∃ i, i < n ∧ r = m i) (m i) := fun {i} hi q hq => by
    rcases hq with aq | ⟨j, hj, rfl⟩
    · rw [s3 aq]
      exact chm aq hi
    · rw [e3 j hj]
      exact fun e => mp hi (Int.ofNat.inj e).symm
  refine ⟨cx', fun z r => anc z r ∨ ((∃ i, i < n ∧ r = m i) ∧ (z = p ∨ anc z p)), fun r => by rw [e0 111 r (by omega)]; exact d0 r, by rw [e0 99 12 (by omega)]; exact d0b, ?_, ?_, ?_, ?_, ?_, ?_, ?_, ?_, ?_, ?_⟩
  · intro r hr
    rcases hr with ar | ⟨i, hi, rfl⟩
    · rw [cx2 ar]
      refine ⟨EF_ext e0 (d1 r ar).1, ?_⟩
      by_cases e : r = p
      · rw [e]
        unfold PHx
        rw [e0 100 p (by omega), hk]
        exact ⟨fun k => absurd k (by decide), fun k => absurd k (by decide), fun k => absurd k (by decide)⟩
      · exact PH_e e0 (e4o r e (ne ar)) (e6 r) (d1 r ar).2
    · rw [hcx1 i hi]
      have f := EF_ext e0 (hm i hi).2.1
      exact ⟨f, PH_0 f (e4 i hi)⟩
  · intro r hr
    rcases hr with ar | ⟨i, hi, rfl⟩
    · rw [s3 ar]
      rcases d2 r ar with k | ⟨y, k1, k2, k3, k4⟩
      · exact .inl k
      · refine .inr ⟨y, k1, .inl k2, .inl k3, fun z hz => ?_⟩
        rcases hz with hz | ⟨⟨i, hi, e⟩, _⟩
        · rcases k4 z hz with q | q
          · exact .inl q
          · exact .inr (.inl q)
        · exact absurd e (ne ar i hi)
    · refine .inr ⟨p, e3 i hi, .inl ap, .inr ⟨⟨i, hi, rfl⟩, .inl rfl⟩, fun z hz => ?_⟩
      rcases hz with hz | ⟨_, q | q⟩
      · exact absurd (d3 z _ hz).2.1 (nc hi)
      · exact .inl q
      · exact .inr (.inl q)
  · intro z r hz
    rcases hz with hz | ⟨⟨i, hi, rfl⟩, hz⟩
    · obtain ⟨a1, a2, a3, a4, q, a5, a6, a7⟩ := d3 z r hz
      refine ⟨.inl a1, .inl a2, a3, by rw [e0 100 z (by omega), cx2 a2]; exact a4, q, .inl a5, by rw [s3 a5]; exact a6, ?_⟩
      rcases a7 with a7 | a7
      · exact .inl a7
      · exact .inr (.inl a7)
    · obtain ⟨m1, m2, m3, m4⟩ := hm i hi
      rcases hz with rfl | hz
      · exact ⟨.inl ap, .inr ⟨i, hi, rfl⟩, m1, fun _ => by rw [hcx1 i hi]; exact m4, m i, .inr ⟨i, hi, rfl⟩, e3 i hi, .inl rfl⟩
      · obtain ⟨a1, a2, a3, a4, q, a5, a6, a7⟩ := d3 z p hz
        refine ⟨.inl a1, .inr ⟨i, hi, rfl⟩, by omega, ?_, q, .inl a5, by rw [s3 a5]; exact a6, .inr (.inr ⟨⟨i, hi, rfl⟩, a7⟩)⟩
        rw [e0 100 z (by omega), hcx1 i hi]
        exact fun k w => a4 k (m3.1 _ w)
  · intro a b ha hb hab
    have one : ∀ {r i : Nat}, act r → i < n → (anc r (m i) ∨ ((∃ j, j < n ∧ m i = m j) ∧ (r = p ∨ anc r p))) ∨ NCx (cs i) (cx r) := fun {r i} ar hi => by
      by_cases e : r = p
      · exact .inl (.inr ⟨⟨i, hi, rfl⟩, .inl e⟩)
      · rcases d4 p r ap ar (fun k => e k.symm) with k | k | k
        · exact absurd k (J_anc h hn)
        · exact .inl (.inr ⟨⟨i, hi, rfl⟩, .inr k⟩)
        · exact .inr (NC_sub k (hm i hi).2.2.1)
    rcases ha with aa | ⟨i, hi, rfl⟩
    · rcases hb with ab | ⟨j, hj, rfl⟩
      · rw [cx2 aa, cx2 ab]
        rcases d4 a b aa ab hab with k | k | k
        · exact .inl (.inl k)
        · exact .inr (.inl (.inl k))
        · exact .inr (.inr k)
      · rw [cx2 aa, hcx1 j hj]
        rcases one aa hj with k | k
        · exact .inl k
        · exact .inr (.inr (NC_sym k))
    · rcases hb with ab | ⟨j, hj, rfl⟩
      · rw [cx2 ab, hcx1 i hi]
        rcases one ab hi with k | k
        · exact .inr (.inl k)
        · exact .inr (.inr k)
      · rw [hcx1 i hi, hcx1 j hj]
        exact .inr (.inr (hcs i j hi hj (fun e => hab (by rw [e]))))
  · intro r hr
    by_cases e : ∃ i, i < n ∧ r = m i
    · obtain ⟨i, hi, rfl⟩ := e
      exact ⟨.inr ⟨i, hi, rfl⟩, fun _ => ⟨by rw [eQ i hi, qc hi], nocc hi⟩⟩
    · have e : ∀ i, i < n → r ≠ m i := fun i hi z => e ⟨i, hi, z⟩
      by_cases e2 : r = p
      · rw [e2, eQp] at hr
        omega
      · rw [eQo r e2 e] at hr
        obtain ⟨a1, a2⟩ := d5 r hr
        refine ⟨.inl a1, fun k => ?_⟩
        rw [PB_e e0 (e4o r e2 e)] at k
        obtain ⟨b1, b2⟩ := a2 k
        exact ⟨by rw [eQo r e2 e]; exact b1, noc e2 b2⟩
  · intro L hL
    have one : ∀ {k z : Int}, WTx s Q act k L z → WTx s2 Q2 (fun r => act r ∨ ∃ i, i < n ∧ r = m i) k L z := fun {k z} w => by
      refine ⟨w.1, fun hz => ?_⟩
      obtain ⟨a1, a2, a3, a4, a5, a6⟩ := w.2 hz
      have z2 : z.toNat ≠ p := fun e => by rw [e] at a2; omega
      exact ⟨.inl a1, by rw [eQo _ z2 (ne a1)]; exact a2, noc z2 a3, by rw [e0 100 _ (by omega)]; exact a4, by rw [e0 101 _ (by omega)]; exact a5, by rw [e4o _ z2 (ne a1)]; exact a6⟩
    rw [(e5 L).1, (e5 L).2]
    exact ⟨one (d6 L hL).1, one (d6 L hL).2⟩
  · intro y hy hb
    rcases hy with ay | ⟨i, hi, rfl⟩
    · by_cases e : y = p
      · subst e
        refine ⟨(List.range n).map m, ?_, fun q => ?_, ?_⟩
        · refine List.pairwise_map.mpr (List.Pairwise.imp_of_mem (fun {a b} ha hb hab e => hab (inj (List.mem_range.mp ha) (List.mem_range.mp hb) e)) List.nodup_range)
        · rw [List.mem_map]
          refine ⟨fun ⟨i, hi, e⟩ => ?_, fun hq => ?_⟩
          · have hi := List.mem_range.mp hi
            rw [← e]
            exact ⟨.inr ⟨i, hi, rfl⟩, e3 i hi⟩
          · obtain ⟨a1 | ⟨i, hi, a1⟩, a2⟩ := hq
            · rw [s3 a1] at a2
              exact absurd a2 (hn q a1)
            · exact ⟨i, List.mem_range.mpr hi, a1.symm⟩
        · rw [List.length_map, List.length_range, eQp, e4p, e0 102 y (by omega), hn2]
          omega
      · rw [PB_e e0 (e4o y e (ne ay))] at hb
        obtain ⟨l, l1, l2, l3⟩ := d7 y ay hb
        refine ⟨l, l1, fun q => ⟨fun hq => ?_, fun hq => ?_⟩, ?_⟩
        · obtain ⟨a1, a2⟩ := (l2 q).mp hq
          exact ⟨.inl a1, by rw [s3 a1]; exact a2⟩
        · obtain ⟨a1 | ⟨i, hi, a1⟩, a2⟩ := hq
          · rw [s3 a1] at a2
            exact (l2 q).mpr ⟨a1, a2⟩
          · rw [a1, e3 i hi] at a2
            exact absurd (Int.ofNat.inj a2).symm e
        · rw [eQo y e (ne ay), e4o y e (ne ay), e0 102 y (by omega)]
          exact l3
    · have := hb.2
      rw [e4 i hi] at this
      exact absurd this (by decide)
  · intro y hy hky a b ha hb ea eb
    rw [e0 100 y (by omega)] at hky
    have hyp : y ≠ p := fun e => hky (e ▸ hk)
    have all : ∀ {q : Nat}, (act q ∨ ∃ i, i < n ∧ q = m i) → s2 143 q = (y : Int) → act q ∧ s 143 q = (y : Int) := fun {q} hq e => by
      rcases hq with aq | ⟨i, hi, rfl⟩
      · rw [s3 aq] at e
        exact ⟨aq, e⟩
      · rw [e3 i hi] at e
        exact absurd (Int.ofNat.inj e).symm hyp
    obtain ⟨a1, a2⟩ := all ha ea
    obtain ⟨b1, b2⟩ := all hb eb
    rcases hy with ay | ⟨i, hi, rfl⟩
    · exact d8 y ay hky a b a1 b1 a2 b2
    · exact absurd a2 (chm a1 hi)
  · intro a b ha hb ea eb
    have one : ∀ {q : Nat}, (act q ∨ ∃ i, i < n ∧ q = m i) → s2 143 q = -1 → act q ∧ s 143 q = -1 := fun {q} hq e => by
      rcases hq with aq | ⟨i, hi, rfl⟩
      · rw [s3 aq] at e
        exact ⟨aq, e⟩
      · rw [e3 i hi] at e
        omega
    obtain ⟨a1, a2⟩ := one ha ea
    obtain ⟨b1, b2⟩ := one hb eb
    exact d9 a b a1 b1 a2 b2
  · intro y hy hky h4
    rw [e0 100 y (by omega)] at hky
    rcases hy with ay | ⟨i, hi, rfl⟩
    · by_cases e : y = p
      · rw [e, e4p] at h4
        omega
      · rw [e4o y e (ne ay)] at h4
        exact noc e (d10 y ay hky h4)
    · exact nocc hi
end KEEP3
