/-! What holds between turns is kept. -/
section KEEPX
variable {s s2 : tab} {Q Q2 : Nat → Nat} {act : Nat → Prop} {cx : Nat → Cxx} {anc : Nat → Nat → Prop} {p : Nat}
theorem PH_e {r : Nat} (e0 : ∀ k j, 99 ≤ k ∧ k ≤ 114 → s2 k j = s k j) (e4 : s2 144 r = s 144 r) (e6 : s2 146 r = s 146 r) (h : PHx s r) : PHx s2 r := by
  have t : trn s2 r = trn s r := by
    unfold trn
    rw [e4]
  unfold PHx
  simp only [t, e6, e0 100 _ (by omega), e0 101 _ (by omega), e0 102 _ (by omega), e0 103 _ (by omega), e0 114 _ (by omega), nth_ext e0]
  exact h
theorem PH_0 {r : Nat} {c : Cxx} (f : EF s c r) (h4 : s 144 r = -1) : PHx s r := by
  have t : trn s r = 0 := if_pos (by omega)
  obtain ⟨_, _, _, _, _, _, _, k5, _⟩ := EF_k f
  unfold PHx
  rw [t]
  exact ⟨fun _ q => absurd q (by decide), fun _ q => absurd q (by decide), fun k q => absurd q (Int.not_lt.mpr (k5 k).2.1.1)⟩
theorem PB_e {r : Nat} (e0 : ∀ k j, 99 ≤ k ∧ k ≤ 114 → s2 k j = s k j) (e4 : s2 144 r = s 144 r) : PBg s2 r ↔ PBg s r := by
  unfold PBg
  rw [e0 100 r (by omega), e4]
/-- one child is asked -/
theorem J_ask (h : JGx s Q act cx anc) (hp : 0 < Q p) (hn : NoC s act p) (hk : s 100 p ≠ 312) {c : Nat} (hc : c < p) (fc : EF s (cx p) c) (e0 : ∀ k j, 99 ≤ k ∧ k ≤ 114 → s2 k j = s k j) (e3 : ∀ j, s2 143 j = if j = c then (p : Int) else s 143 j) (e4 : ∀ j, j ≠ p → j ≠ c → s2 144 j = s 144 j) (e4c : s2 144 c = -1) (e6 : ∀ j, j ≠ p → s2 146 j = s 146 j) (ph : PHx s2 p) (e5 : ∀ L, s2 152 L = s 152 L ∧ s2 153 L = s 153 L) (eQ : ∀ r, Q2 r = if r = c then Q c + 1 else if r = p then 0 else Q r) : ∃ cx2 anc2, JGx s2 Q2 (fun r => act r ∨ r = c) cx2 anc2 := by
  obtain ⟨d0, d0b, d1, d2, d3, d4, d5, d6, d7, d8, d9, d10⟩ := h
  have h : JGx s Q act cx anc := ⟨d0, d0b, d1, d2, d3, d4, d5, d6, d7, d8, d9, d10⟩
  have ap := (d5 p hp).1
  have fp := (d1 p ap).1
  have hcp : c ≠ p := by omega
  have nc : ¬ act c := fun ac => by
    rcases d4 c p ac ap hcp with k | k | k
    · have := (d3 c p k).2.2.1
      omega
    · exact J_anc h hn k
    · exact k.1 c ⟨EF_p (d1 c ac).1, EF_p fc⟩
  have ne : ∀ {r : Nat}, act r → r ≠ c := fun ar e => nc (e ▸ ar)
  have qc : Q c = 0 := Classical.byContradiction fun k => nc (d5 c (by omega)).1
  have s3 : ∀ {r : Nat}, act r → s2 143 r = s 143 r := fun ar => by rw [e3, if_neg (ne ar)]
  have s3c : s2 143 c = (p : Int) := by rw [e3, if_pos rfl]
  obtain ⟨cx', hcx⟩ : ∃ cx' : Nat → Cxx, ∀ r, cx' r = if r = c then cx p else cx r := ⟨_, fun _ => rfl⟩
  have cx2 : ∀ {r : Nat}, act r → cx' r = cx r := fun ar => by rw [hcx, if_neg (ne ar)]
  have cxc : cx' c = cx p := by rw [hcx, if_pos rfl]
  have chc : ∀ {r : Nat}, act r → s 143 r ≠ (c : Int) := fun ar k => by
    rcases d2 _ ar with z | ⟨y, z, ay, _⟩
    · rw [z] at k
      omega
    · rw [z] at k
      exact nc ((Int.ofNat.inj k) ▸ ay)
  have q2 : ∀ {r : Nat}, r ≠ c → r ≠ p → Q2 r = Q r := fun a b => by rw [eQ, if_neg a, if_neg b]
  have noc : ∀ {r : Nat}, r ≠ p → NoC s act r → NoC s2 (fun r => act r ∨ r = c) r := fun hr k q hq => by
    rcases hq with aq | rfl
    · rw [s3 aq]
      exact k q aq
    · rw [s3c]
      exact fun e => hr (Int.ofNat.inj e).symm
  have nocc : NoC s2 (fun r => act r ∨ r = c) c := fun q hq => by
    rcases hq with aq | rfl
    · rw [s3 aq]
      exact chc aq
    · rw [s3c]
      exact fun e => hcp (Int.ofNat.inj e).symm
  refine ⟨cx', fun z r => anc z r ∨ (r = c ∧ (z = p ∨ anc z p)), fun r => by rw [e0 111 r (by omega)]; exact d0 r, by rw [e0 99 12 (by omega)]; exact d0b, ?_, ?_, ?_, ?_, ?_, ?_, ?_, ?_, ?_, ?_⟩
  · intro r hr
    rcases hr with ar | rfl
    · rw [cx2 ar]
      refine ⟨EF_ext e0 (d1 r ar).1, ?_⟩
      by_cases e : r = p
      · rw [e]
        exact ph
      · exact PH_e e0 (e4 r e (ne ar)) (e6 r e) (d1 r ar).2
    · rw [cxc]
      exact ⟨EF_ext e0 fc, PH_0 (EF_ext e0 fc) e4c⟩
  · intro r hr
    rcases hr with ar | rfl
    · rw [s3 ar]
      rcases d2 r ar with k | ⟨y, k1, k2, k3, k4⟩
      · exact .inl k
      · refine .inr ⟨y, k1, .inl k2, .inl k3, fun z hz => ?_⟩
        rcases hz with hz | ⟨e, _⟩
        · rcases k4 z hz with q | q
          · exact .inl q
          · exact .inr (.inl q)
        · exact absurd e (ne ar)
    · refine .inr ⟨p, s3c, .inl ap, .inr ⟨rfl, .inl rfl⟩, fun z hz => ?_⟩
      rcases hz with hz | ⟨_, q | q⟩
      · exact absurd (d3 z r hz).2.1 nc
      · exact .inl q
      · exact .inr (.inl q)
  · intro z r hz
    rcases hz with hz | ⟨rfl, hz⟩
    · obtain ⟨a1, a2, a3, a4, q, a5, a6, a7⟩ := d3 z r hz
      refine ⟨.inl a1, .inl a2, a3, by rw [e0 100 z (by omega), cx2 a2]; exact a4, q, .inl a5, by rw [s3 a5]; exact a6, ?_⟩
      rcases a7 with a7 | a7
      · exact .inl a7
      · exact .inr (.inl a7)
    · rcases hz with rfl | hz
      · exact ⟨.inl ap, .inr rfl, hc, by rw [e0 100 z (by omega)]; exact fun k => absurd k hk, r, .inr rfl, s3c, .inl rfl⟩
      · obtain ⟨a1, a2, a3, a4, q, a5, a6, a7⟩ := d3 z p hz
        refine ⟨.inl a1, .inr rfl, by omega, by rw [e0 100 z (by omega), cxc]; exact a4, q, .inl a5, by rw [s3 a5]; exact a6, .inr (.inr ⟨rfl, ?_⟩)⟩
        exact a7
  · intro a b ha hb hab
    have one : ∀ {r : Nat}, act r → (anc r c ∨ (c = c ∧ (r = p ∨ anc r p))) ∨ NCx (cx p) (cx r) := fun {r} ar => by
      by_cases e : r = p
      · exact .inl (.inr ⟨rfl, .inl e⟩)
      · rcases d4 p r ap ar (fun k => e k.symm) with k | k | k
        · exact absurd k (J_anc h hn)
        · exact .inl (.inr ⟨rfl, .inr k⟩)
        · exact .inr k
    rcases ha with aa | rfl
    · rcases hb with ab | rfl
      · rw [cx2 aa, cx2 ab]
        rcases d4 a b aa ab hab with k | k | k
        · exact .inl (.inl k)
        · exact .inr (.inl (.inl k))
        · exact .inr (.inr k)
      · rw [cx2 aa, cxc]
        rcases one aa with k | k
        · exact .inl k
        · exact .inr (.inr (NC_sym k))
    · rcases hb with ab | rfl
      · rw [cx2 ab, cxc]
        rcases one ab with k | k
        · exact .inr (.inl k)
        · exact .inr (.inr k)
      · exact absurd rfl hab
  · intro r hr
    by_cases e : r = c
    · subst e
      exact ⟨.inr rfl, fun _ => ⟨by rw [eQ, if_pos rfl, qc], nocc⟩⟩
    · by_cases e2 : r = p
      · rw [eQ, if_neg e, if_pos e2] at hr
        omega
      · rw [q2 e e2] at hr
        obtain ⟨a1, a2⟩ := d5 r hr
        refine ⟨.inl a1, fun k => ?_⟩
        rw [PB_e e0 (e4 r e2 e)] at k
        obtain ⟨b1, b2⟩ := a2 k
        exact ⟨by rw [q2 e e2]; exact b1, noc e2 b2⟩
  · intro L hL
    have one : ∀ {k z : Int}, WTx s Q act k L z → WTx s2 Q2 (fun r => act r ∨ r = c) k L z := fun {k z} w => by
      refine ⟨w.1, fun hz => ?_⟩
      obtain ⟨a1, a2, a3, a4, a5, a6⟩ := w.2 hz
      have z1 := ne a1
      have z2 : z.toNat ≠ p := fun e => by rw [e] at a2; omega
      exact ⟨.inl a1, by rw [q2 z1 z2]; exact a2, noc z2 a3, by rw [e0 100 _ (by omega)]; exact a4, by rw [e0 101 _ (by omega)]; exact a5, by rw [e4 _ z2 z1]; exact a6⟩
    rw [(e5 L).1, (e5 L).2]
    exact ⟨one (d6 L hL).1, one (d6 L hL).2⟩
  · intro y hy hb
    rcases hy with ay | rfl
    · by_cases e : y = p
      · rw [e] at hb
        exact absurd ((e0 100 p (by omega)).symm.trans hb.1) hk
      · rw [PB_e e0 (e4 y e (ne ay))] at hb
        obtain ⟨l, l1, l2, l3⟩ := d7 y ay hb
        refine ⟨l, l1, fun q => ⟨fun hq => ?_, fun hq => ?_⟩, ?_⟩
        · obtain ⟨a1, a2⟩ := (l2 q).mp hq
          exact ⟨.inl a1, by rw [s3 a1]; exact a2⟩
        · obtain ⟨a1 | a1, a2⟩ := hq
          · rw [s3 a1] at a2
            exact (l2 q).mpr ⟨a1, a2⟩
          · rw [a1, s3c] at a2
            exact absurd (Int.ofNat.inj a2).symm e
        · rw [q2 (ne ay) e, e4 y e (ne ay), e0 102 y (by omega)]
          exact l3
    · have := hb.2
      rw [e4c] at this
      exact absurd this (by decide)
  · intro y hy hky a b ha hb ea eb
    rw [e0 100 y (by omega)] at hky
    have all : ∀ {q : Nat}, (act q ∨ q = c) → s2 143 q = (y : Int) → (act q ∧ s 143 q = (y : Int)) ∨ (q = c ∧ y = p) := fun {q} hq e => by
      rcases hq with aq | rfl
      · rw [s3 aq] at e
        exact .inl ⟨aq, e⟩
      · rw [s3c] at e
        exact .inr ⟨rfl, (Int.ofNat.inj e).symm⟩
    rcases all ha ea with ⟨a1, a2⟩ | ⟨a1, a2⟩
    · rcases all hb eb with ⟨b1, b2⟩ | ⟨b1, b2⟩
      · rcases hy with ay | rfl
        · exact d8 y ay hky a b a1 b1 a2 b2
        · exact absurd a2 (chc a1)
      · rw [b2] at a2
        exact absurd a2 (hn a a1)
    · rcases all hb eb with ⟨b1, b2⟩ | ⟨b1, b2⟩
      · rw [a2] at b2
        exact absurd b2 (hn b b1)
      · rw [a1, b1]
  · intro a b ha hb ea eb
    have one : ∀ {q : Nat}, (act q ∨ q = c) → s2 143 q = -1 → act q ∧ s 143 q = -1 := fun {q} hq e => by
      rcases hq with aq | rfl
      · rw [s3 aq] at e
        exact ⟨aq, e⟩
      · rw [s3c] at e
        omega
    obtain ⟨a1, a2⟩ := one ha ea
    obtain ⟨b1, b2⟩ := one hb eb
    exact d9 a b a1 b1 a2 b2
  · intro y hy hky h4
    rw [e0 100 y (by omega)] at hky
    rcases hy with ay | rfl
    · by_cases e : y = p
      · exact absurd (e ▸ hky) hk
      · rw [e4 y e (ne ay)] at h4
        exact noc e (d10 y ay hky h4)
    · exact nocc
end KEEPX
