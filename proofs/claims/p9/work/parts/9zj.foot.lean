/-! Slots that a turn writes and reads. -/
section FOOT
variable {s s2 : tab} {c d : Cxx} {p : Nat}
/-- outs and ins -/
def LNx (c : Cxx) (k j : Nat) : Prop := ∃ L, 8 ≤ L ∧ L < 12 ∧ ((c.2.2.2 L ∧ (k = 152 ∧ j = L ∨ k = 162 + 2 * (L - 8) ∨ k = 162 + 2 * (L - 8) + 1)) ∨ (c.2.2.2 (12 + L) ∧ (k = 153 ∧ j = L ∨ k = 154 + 2 * (L - 8) ∨ k = 154 + 2 * (L - 8) + 1)))
def FWx (c : Cxx) (k j : Nat) : Prop := (143 ≤ k ∧ k ≤ 147 ∧ c.1 j) ∨ (k = 148 ∧ c.2.2.1 j) ∨ (k = 149 ∧ c.2.2.1 (24 + j / 64)) ∨ LNx c k j
def FRx (c : Cxx) (k j : Nat) : Prop := (143 ≤ k ∧ k ≤ 147 ∧ c.1 j) ∨ (k = 148 ∧ c.2.1 j) ∨ (k = 149 ∧ c.2.1 (24 + j / 64)) ∨ LNx c k j
theorem FW_p {k j : Nat} (hk : 143 ≤ k ∧ k ≤ 147) (h : c.1 j) : FWx c k j := .inl ⟨hk.1, hk.2, h⟩
theorem LN_k {k j : Nat} (h : LNx c k j) : k = 152 ∨ k = 153 ∨ 154 ≤ k ∧ k ≤ 169 := by
  obtain ⟨L, h1, h2, h3⟩ := h
  omega
theorem LN_nc {k j : Nat} (hn : NCx c d) (h : LNx c k j) (h2 : LNx d k j) : False := by
  obtain ⟨L, a1, a2, a3⟩ := h
  obtain ⟨M, b1, b2, b3⟩ := h2
  rcases a3 with ⟨q, a3⟩ | ⟨q, a3⟩ <;> rcases b3 with ⟨r, b3⟩ | ⟨r, b3⟩
  · have e : L = M := by omega
    subst e
    exact hn.2.2.2 _ ⟨q, r⟩
  · omega
  · omega
  · have e : L = M := by omega
    subst e
    exact hn.2.2.2 _ ⟨q, r⟩
theorem FW_nc {k j : Nat} (hn : NCx c d) (h : FWx c k j) (h2 : FRx d k j) : False := by
  rcases h with ⟨a1, a2, a3⟩ | ⟨a1, a3⟩ | ⟨a1, a3⟩ | a <;> rcases h2 with ⟨b1, b2, b3⟩ | ⟨b1, b3⟩ | ⟨b1, b3⟩ | b
  · exact hn.1 _ ⟨a3, b3⟩
  · omega
  · omega
  · have := LN_k b; omega
  · omega
  · exact hn.2.1 _ ⟨a3, b3⟩
  · omega
  · have := LN_k b; omega
  · omega
  · omega
  · exact hn.2.1 _ ⟨a3, b3⟩
  · have := LN_k b; omega
  · have := LN_k a; omega
  · have := LN_k a; omega
  · have := LN_k a; omega
  · exact LN_nc hn a b
theorem FW_R {k j : Nat} (hc : AUx c) (h : FWx c k j) : FRx c k j := by
  rcases h with h | ⟨h, q⟩ | ⟨h, q⟩ | h
  · exact .inl h
  · exact .inr (.inl ⟨h, hc _ q⟩)
  · exact .inr (.inr (.inl ⟨h, hc _ q⟩))
  · exact .inr (.inr (.inr h))
/-- arrays are small -/
def SZx (s : tab) : Prop := ∀ r, r < 6 → 0 ≤ s 111 r ∧ s 111 r ≤ 64
theorem plx_r (hz : SZx s) {r x : Int} : 0 ≤ plx s r x ∧ plx s r x ≤ 63 := by
  unfold plx
  split
  · rename_i h
    have h1 := hz r.toNat (by omega)
    have e : imi (s 111 r.toNat) 1 = s 111 r.toNat - 1 := imi_e (by omega)
    rw [e]
    have := and_rng (x := Int32.ofInt x) (n := s 111 r.toNat - 1) (by omega)
    unfold ian
    omega
  · omega
/-- writes, one by one -/
theorem awx_w {y q : Int} (hy : 0 ≤ y → c.1 y.toNat) : ∀ w ∈ (awx s y q).1, FWx c w.1 w.2.1 := by
  intro w hw
  unfold awx at hw
  split at hw
  · rename_i h
    simp only [List.mem_cons, List.not_mem_nil, or_false] at hw
    rcases hw with rfl | rfl
    · exact FW_p (k := 143) (by omega) (hy h.1)
    · exact FW_p (k := 144) (by omega) (hy h.1)
  · cases hw
theorem twx_w {v : Int} (hp : c.1 p) : ∀ w ∈ (twx s (p : Int) v).1, FWx c w.1 w.2.1 ∨ w = (142, 13, 1) ∧ s 143 p < 0 := by
  intro w hw
  unfold twx at hw
  split at hw
  · rw [Int.toNat_natCast] at hw
    rcases List.mem_cons.mp hw with e | e
    · rw [e]
      exact .inl (FW_p (k := 145) (by omega) hp)
    · split at e
      · rename_i h
        simp only [List.mem_cons, List.not_mem_nil, or_false] at e
        exact .inr ⟨e, h⟩
      · cases e
  · cases hw
theorem asx_w (hz : SZx s) {g x v : Int} (hg : c.2.2.1 g.toNat) : ∀ w ∈ asx s g x v, FWx c w.1 w.2.1 := by
  intro w hw
  have hpl := plx_r hz (r := g - 24) (x := x)
  unfold asx at hw
  split at hw
  · simp only [List.mem_cons, List.not_mem_nil, or_false] at hw
    rw [hw]
    exact .inr (.inl ⟨rfl, hg⟩)
  · split at hw
    · rename_i h
      simp only [List.mem_cons, List.not_mem_nil, or_false] at hw
      rw [hw]
      refine .inr (.inr (.inl ⟨rfl, ?_⟩))
      show c.2.2.1 (24 + ((g - 24) * 64 + plx s (g - 24) x).toNat / 64)
      rw [show 24 + ((g - 24) * 64 + plx s (g - 24) x).toNat / 64 = g.toNat by omega]
      exact hg
    · cases hw
/-- reads, one by one: s2 is as s where c may look -/
def AGx (c : Cxx) (s s2 : tab) : Prop := (∀ k j, 99 ≤ k ∧ k ≤ 114 → s2 k j = s k j) ∧ ∀ k j, FRx c k j → s2 k j = s k j
theorem AG_p (h : AGx c s s2) {k x : Nat} (hk : 143 ≤ k ∧ k ≤ 147) (hx : c.1 x) : s2 k x = s k x := h.2 k x (.inl ⟨hk.1, hk.2, hx⟩)
theorem flx_e (h : AGx c s s2) {y : Int} : flx s2 y = flx s y := by
  unfold flx
  rw [h.1 99 12 (by omega), h.1 104 _ (by omega)]
theorem vax_e (h : AGx c s s2) {y : Int} (hy : 0 ≤ y → c.1 y.toNat) : vax s2 y = vax s y := by
  unfold vax
  rw [h.1 99 12 (by omega)]
  split
  · rename_i q
    exact AG_p h (by omega) (hy q.1)
  · rfl
theorem plx_e (h : AGx c s s2) {r x : Int} : plx s2 r x = plx s r x := by
  unfold plx
  rw [h.1 111 _ (by omega)]
theorem awx_e (h : AGx c s s2) {y q : Int} : awx s2 y q = awx s y q := by
  unfold awx
  rw [h.1 99 12 (by omega)]
theorem twx_e (h : AGx c s s2) {v : Int} (hp : c.1 p) : twx s2 (p : Int) v = twx s (p : Int) v := by
  unfold twx
  rw [h.1 99 12 (by omega), Int.toNat_natCast, AG_p h (by omega) hp]
theorem otx_e (h : AGx c s s2) {y v : Int} (hp : c.1 p) : otx s2 y (p : Int) v = otx s y (p : Int) v := by
  unfold otx
  rw [awx_e h, twx_e h hp]
theorem asx_e (h : AGx c s s2) {g x v : Int} : asx s2 g x v = asx s g x v := by
  unfold asx
  rw [h.1 110 _ (by omega), plx_e h]
theorem bwx_e (h : AGx c s s2) : ∀ (n : Nat) (y : Int), bwx s2 p n y = bwx s p n y
  | 0, _ => rfl
  | n + 1, y => by
    show cax (awx s2 y p) (bwx s2 p n (flx s2 y)) = cax (awx s y p) (bwx s p n (flx s y))
    rw [awx_e h, flx_e h, bwx_e h n]
theorem nth_e (h : AGx c s s2) (i : Nat) (x : Int) : nth s2 i x = nth s i x := nth_ext h.1 i x
theorem pwx_e (h : AGx c s s2) {f : Int} : ∀ (n : Nat) (i x : Int), (∀ m, m < n → 0 ≤ nth s m x → c.1 (nth s m x).toNat) → pwx s2 f n i x = pwx s f n i x
  | 0, _, _, _ => rfl
  | n + 1, i, x, hx => by
    show asx s2 (f + i) 0 (vax s2 x) ++ pwx s2 f n (i + 1) (flx s2 x) = asx s (f + i) 0 (vax s x) ++ pwx s f n (i + 1) (flx s x)
    rw [asx_e h, vax_e h (y := x) (fun q => hx 0 (by omega) q), flx_e h, pwx_e h n _ _ (fun m hm q => hx (m + 1) (by omega) q)]
theorem vrx_e (h : AGx c s s2) {v : Int} (hv : 0 ≤ v → c.2.1 v.toNat) : vrx s2 v = vrx s v := by
  unfold vrx
  split
  · rename_i q
    exact h.2 148 _ (.inr (.inl ⟨rfl, hv q.1⟩))
  · rfl
theorem itx_e (hz : SZx s) (h : AGx c s s2) {r x : Int} (hr : 0 ≤ r → c.2.1 (24 + r.toNat)) : itx s2 r x = itx s r x := by
  have hpl := plx_r hz (r := r) (x := x)
  unfold itx
  rw [plx_e h]
  split
  · rename_i q
    refine h.2 149 _ (.inr (.inr (.inl ⟨rfl, ?_⟩)))
    rw [show (r * 64 + plx s r x).toNat / 64 = r.toNat by omega]
    exact hr q.1
  · rfl
end FOOT
