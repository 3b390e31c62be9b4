/-! A turn at a chan. -/
section CHANX
variable {s s2 : tab} {c d : Cxx} {p : Nat}
/-- who waits at the other end, -1 for none -/
def prx (s : tab) (p : Nat) : Int := if s 100 p = 406 then s 153 (s 101 p).toNat else s 152 (s 101 p).toNat
/-- the turn at a chan -/
def chx (s : tab) (p : Nat) : wrl × List Int :=
  if s 100 p = 406 then (if 0 ≤ prx s p then cax (hox s p (prx s p) (vax s (s 102 p))) ([(153, (s 101 p).toNat, -1)], []) else ([(152, (s 101 p).toNat, (p : Int))], []))
  else (if 0 ≤ prx s p then cax (hox s (prx s p) p (vax s (s 102 (prx s p).toNat))) ([(152, (s 101 p).toNat, -1)], []) else ([(153, (s 101 p).toNat, (p : Int))], []))
theorem Wr_c (h : EF s c p) (hc : CMx s p) : Wrx s p = cax ([(144, p, trn s p + 1)], []) (chx s p) := by
  obtain ⟨hp, _, _, _, _, _, _, _, k6, k7, k8, _⟩ := EF_k h
  obtain ⟨c8, hc⟩ := hc
  have hf : ¬ FGx s p := fun q => by
    rcases hc with ⟨k, _⟩ | ⟨_, _, k⟩
    · exact absurd (q.1.symm.trans k) (by decide)
    · exact q.2 k
  unfold Wrx
  rw [if_neg hf]
  congr 1
  rcases hc with ⟨k, u⟩ | ⟨k, u, _⟩
  · have a := (k7 k).1
    rw [if_neg (by rw [k]; decide), if_neg (by rw [k]; decide), if_pos (.inr (.inl k))]
    unfold mwx chx prx swx
    rw [if_pos k, if_neg u, if_pos k, if_neg (by omega), if_neg (by omega), if_pos k]
  · have a := (k8 k).1
    have k2 : ¬ s 100 p = 406 := by rw [k]; decide
    rw [if_neg (by rw [k]; decide), if_neg (by rw [k]; decide), if_pos (.inr (.inr k))]
    unfold mwx chx prx rwx
    rw [if_neg k2, if_neg u, if_pos k, if_neg k2, if_neg (by omega), if_neg (by omega), if_neg k2]
/-- slots of a chan -/
def FCx (s : tab) (p k j : Nat) : Prop := CMx s p ∧ (k = 152 ∨ k = 153) ∧ j = (s 101 p).toNat
/-- slots that a turn may write, look at: r is who waits at the other end -/
def FW2 (s : tab) (c d : Cxx) (p k j : Nat) : Prop := FWx c k j ∨ (CMx s p ∧ 0 ≤ prx s p ∧ FWx d k j) ∨ FCx s p k j
def FR2 (s : tab) (c d : Cxx) (p k j : Nat) : Prop := FRx c k j ∨ (CMx s p ∧ 0 ≤ prx s p ∧ FRx d k j) ∨ FCx s p k j
theorem hox_w {a b : Nat} {v : Int} (ha : c.1 a) (hb : d.1 b) : ∀ w ∈ (hox s (a : Int) (b : Int) v).1, FWx c w.1 w.2.1 ∨ FWx d w.1 w.2.1 ∨ w = (142, 13, 1) ∧ (s 143 a < 0 ∨ s 143 b < 0) := by
  intro w hw
  unfold hox at hw
  split at hw
  · rw [Int.toNat_natCast] at hw
    rcases List.mem_append.mp hw with e | e
    · simp only [List.mem_cons, List.not_mem_nil, or_false] at e
      rcases e with e | e <;> rw [e]
      · exact .inr (.inl (FW_p (k := 145) (by omega) hb))
      · exact .inr (.inl (FW_p (k := 147) (by omega) hb))
    · rcases twx_w ha w e with q | ⟨q1, q2⟩
      · exact .inl q
      · exact .inr (.inr ⟨q1, .inl q2⟩)
  · cases hw
/-- what is known of who waits -/
def PTn (s : tab) (d : Cxx) (p : Nat) : Prop := CMx s p → 0 ≤ prx s p → EF s d (prx s p).toNat ∧ s 101 (prx s p).toNat = s 101 p ∧ (s 100 p = 406 → s 100 (prx s p).toNat = 407) ∧ (s 100 p = 407 → s 100 (prx s p).toNat = 406)
theorem W2_w (hz : SZx s) (h : EF s c p) (hph : PHx s p) (hd : PTn s d p) : ∀ w ∈ (Wrx s p).1, FW2 s c d p w.1 w.2.1 ∨ w = (142, 13, 1) ∧ (s 143 p < 0 ∨ CMx s p ∧ 0 ≤ prx s p ∧ s 143 (prx s p).toNat < 0) := by
  intro w hw
  have hp := EF_p h
  obtain ⟨_, _, _, _, _, _, _, _, _, k7, k8, _⟩ := EF_k h
  by_cases hc : CMx s p
  · rw [Wr_c h hc] at hw
    rcases List.mem_append.mp hw with e | e
    · simp only [List.mem_cons, List.not_mem_nil, or_false] at e
      rw [e]
      exact .inl (.inl (FW_p (k := 144) (by omega) hp))
    · have one : ∀ {k : Nat} {v : Int}, (k = 152 ∨ k = 153) → w = (k, (s 101 p).toNat, v) → FW2 s c d p w.1 w.2.1 := fun hk q => by
        rw [q]
        exact .inr (.inr ⟨hc, hk, rfl⟩)
      have ho : ∀ {a b : Nat} {v : Int}, 0 ≤ prx s p → (a = p ∧ b = (prx s p).toNat ∨ a = (prx s p).toNat ∧ b = p) → w ∈ (hox s (a : Int) (b : Int) v).1 → FW2 s c d p w.1 w.2.1 ∨ w = (142, 13, 1) ∧ (s 143 p < 0 ∨ CMx s p ∧ 0 ≤ prx s p ∧ s 143 (prx s p).toNat < 0) := fun hr hab q => by
        obtain ⟨d1, _⟩ := hd hc hr
        rcases hab with ⟨rfl, rfl⟩ | ⟨rfl, rfl⟩
        · rcases hox_w hp (EF_p d1) w q with z | z | ⟨z1, z2 | z2⟩
          · exact .inl (.inl z)
          · exact .inl (.inr (.inl ⟨hc, hr, z⟩))
          · exact .inr ⟨z1, .inl z2⟩
          · exact .inr ⟨z1, .inr ⟨hc, hr, z2⟩⟩
        · rcases hox_w (EF_p d1) hp w q with z | z | ⟨z1, z2 | z2⟩
          · exact .inl (.inr (.inl ⟨hc, hr, z⟩))
          · exact .inl (.inl z)
          · exact .inr ⟨z1, .inr ⟨hc, hr, z2⟩⟩
          · exact .inr ⟨z1, .inl z2⟩
      unfold chx at e
      by_cases k : s 100 p = 406
      · rw [if_pos k] at e
        by_cases hr : 0 ≤ prx s p
        · rw [if_pos hr] at e
          obtain ⟨d1, d2, d3, d4⟩ := hd hc hr
          rcases List.mem_append.mp e with e | e
          · rw [← Int.toNat_of_nonneg hr] at e
            exact ho hr (.inl ⟨rfl, rfl⟩) e
          · simp only [List.mem_cons, List.not_mem_nil, or_false] at e
            exact .inl (one (.inr rfl) e)
        · rw [if_neg hr] at e
          simp only [List.mem_cons, List.not_mem_nil, or_false] at e
          exact .inl (one (.inl rfl) e)
      · rw [if_neg k] at e
        have k2 : s 100 p = 407 := by
          rcases hc.2 with q | q
          · exact absurd q.1 k
          · exact q.1
        by_cases hr : 0 ≤ prx s p
        · rw [if_pos hr] at e
          rcases List.mem_append.mp e with e | e
          · have e : w ∈ (hox s (((prx s p).toNat : Nat) : Int) (p : Int) (vax s (s 102 (prx s p).toNat))).1 := by
              rw [Int.toNat_of_nonneg hr]
              exact e
            exact ho hr (.inr ⟨rfl, rfl⟩) e
          · simp only [List.mem_cons, List.not_mem_nil, or_false] at e
            exact .inl (one (.inl rfl) e)
        · rw [if_neg hr] at e
          simp only [List.mem_cons, List.not_mem_nil, or_false] at e
          exact .inl (one (.inr rfl) e)
  · rcases Wr_w hz h hph hc w hw with q | ⟨q1, q2⟩
    · exact .inl (.inl q)
    · exact .inr ⟨q1, .inl q2⟩
theorem hox_e {a b : Nat} {v : Int} (hA : AGx c s s2) (ha : c.1 a) : hox s2 (a : Int) (b : Int) v = hox s (a : Int) (b : Int) v := by
  unfold hox
  rw [hA.1 99 12 (by omega), twx_e hA ha]
theorem W2_e (hz : SZx s) (h : EF s c p) (hph : PHx s p) (hd : PTn s d p) (hs : ∀ k j, 99 ≤ k ∧ k ≤ 114 → s2 k j = s k j) (hr : ∀ k j, FR2 s c d p k j → s2 k j = s k j) : Wrx s2 p = Wrx s p := by
  have hp := EF_p h
  have ha : AGx c s s2 := ⟨hs, fun k j q => hr k j (.inl q)⟩
  by_cases hc : CMx s p
  · have t2 : trn s2 p = trn s p := trn_e ha hp
    have hc2 : CMx s2 p := by
      unfold CMx sgu
      rw [hs 101 p (by omega), hs 100 p (by omega), hs 103 p (by omega), t2, AG_p ha (k := 147) (by omega) hp]
      exact hc
    rw [Wr_c (EF_ext hs h) hc2, Wr_c h hc, t2]
    congr 1
    have e152 : s2 152 (s 101 p).toNat = s 152 (s 101 p).toNat := hr _ _ (.inr (.inr ⟨hc, .inl rfl, rfl⟩))
    have e153 : s2 153 (s 101 p).toNat = s 153 (s 101 p).toNat := hr _ _ (.inr (.inr ⟨hc, .inr rfl, rfl⟩))
    have ep : prx s2 p = prx s p := by
      unfold prx
      rw [hs 100 p (by omega), hs 101 p (by omega), e152, e153]
    unfold chx
    rw [ep, hs 100 p (by omega), hs 101 p (by omega), hs 102 p (by omega), hs 102 _ (by omega)]
    obtain ⟨_, _, _, _, _, _, _, _, _, k7, k8, _⟩ := EF_k h
    by_cases k : s 100 p = 406
    · rw [if_pos k, if_pos k]
      by_cases q : 0 ≤ prx s p
      · rw [if_pos q, if_pos q, vax_e ha (CE_p (k7 k).2)]
        obtain ⟨d1, d2, d3, d4⟩ := hd hc q
        have hB : AGx d s s2 := ⟨hs, fun k j z => hr k j (.inr (.inl ⟨hc, q, z⟩))⟩
        have := hox_e (b := (prx s p).toNat) (v := vax s (s 102 p)) ha hp
        rw [Int.toNat_of_nonneg q] at this
        rw [this]
      · rw [if_neg q, if_neg q]
    · rw [if_neg k, if_neg k]
      have k2 : s 100 p = 407 := by
        rcases hc.2 with q | q
        · exact absurd q.1 k
        · exact q.1
      by_cases q : 0 ≤ prx s p
      · rw [if_pos q, if_pos q]
        obtain ⟨d1, d2, d3, d4⟩ := hd hc q
        have hB : AGx d s s2 := ⟨hs, fun k j z => hr k j (.inr (.inl ⟨hc, q, z⟩))⟩
        obtain ⟨_, _, _, _, _, _, _, _, _, j7, _⟩ := EF_k d1
        rw [vax_e hB (CE_p (j7 (d4 k2)).2)]
        have := hox_e (b := p) (v := vax s (s 102 (prx s p).toNat)) hB (EF_p d1)
        rw [Int.toNat_of_nonneg q] at this
        rw [this]
      · rw [if_neg q, if_neg q]
  · exact Wr_e hz h hph hc ha
end CHANX
