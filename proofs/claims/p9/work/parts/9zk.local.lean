/-! A turn stays within its part's bounds. -/
section LOCX
variable {s s2 : tab} {c : Cxx} {p : Nat}
/-- what a part of a row remembers -/
def PHx (s : tab) (p : Nat) : Prop := (s 100 p = 408 → 0 < trn s p → ∃ i, s 146 p = nth s i (s 101 p)) ∧ (s 100 p = 404 → 0 < trn s p → trn s p ≤ s 103 p → s 146 p = nth s (trn s p - 1).toNat (s 102 p)) ∧ (s 100 p = 404 → s 103 p < trn s p → ∃ i, s 146 p = nth s i (s 114 (s 101 p).toNat))
/-- at a chan -/
def CMx (s : tab) (p : Nat) : Prop := s 101 p < 8 ∧ (s 100 p = 406 ∧ trn s p ≠ 0 ∨ s 100 p = 407 ∧ sgu s p (trn s p) ≠ 0 ∧ s 147 p = 0)
theorem trn_0 : 0 ≤ trn s p := by
  unfold trn
  split <;> omega
def WOx (c : Cxx) (s : tab) (p : Nat) (ws : wrl) : Prop := ∀ w ∈ ws, FWx c w.1 w.2.1 ∨ w = (142, 13, 1) ∧ s 143 p < 0
theorem WO_nil : WOx c s p [] := fun w hw => by cases hw
theorem WO_app {a b : wrl} (ha : WOx c s p a) (hb : WOx c s p b) : WOx c s p (a ++ b) := fun w hw => (List.mem_append.mp hw).elim (ha w) (hb w)
theorem WO_one {k j : Nat} {v : Int} (h : FWx c k j) : WOx c s p [(k, j, v)] := fun w hw => by
  simp only [List.mem_cons, List.not_mem_nil, or_false] at hw
  rw [hw]
  exact .inl h
theorem WO_F {ws : wrl} (h : ∀ w ∈ ws, FWx c w.1 w.2.1) : WOx c s p ws := fun w hw => .inl (h w hw)
theorem CH_p {R : Cxx → Nat → Prop} {y : Int} (hR : ∀ c x, R c x → c.1 x) (h : CHx R c p y) : 0 ≤ y → c.1 y.toNat := fun _ => hR _ _ h.2.2
theorem EF_p {x : Nat} (h : EF s c x) : c.1 x := (EF_k h).1
theorem CE_p {y : Int} (h : CHx (EF s) c p y) : 0 ≤ y → c.1 y.toNat := fun _ => EF_p h.2.2
theorem ot_w {y v : Int} (hp : c.1 p) (hy : 0 ≤ y → c.1 y.toNat) : WOx c s p (otx s y (p : Int) v).1 := by
  unfold otx
  split
  · exact WO_F (awx_w hy)
  · exact twx_w hp
theorem ew_w (h : EF s c p) (hk : s 100 p = 2 ∨ s 100 p = 400 ∨ s 100 p = 401 ∨ s 100 p = 402 ∨ s 100 p = 403) {u : Int} : WOx c s p (ewx s p u).1 := by
  obtain ⟨hp, _, _, _, k2, k3, k4, _⟩ := EF_k h
  unfold ewx
  split
  · exact twx_w hp
  · split
    · exact twx_w hp
    · split
      · rename_i e
        split
        · refine WO_F (awx_w ?_)
          split
          · exact CE_p (k4 e).1
          · exact CE_p (k4 e).2
        · exact twx_w hp
      · split
        · refine WO_F (awx_w ?_)
          rcases hk with e | e | e | e | e
          · exact absurd e (by assumption)
          · exact absurd e (by assumption)
          · exact CE_p (k2 e).2
          · exact CE_p (k3 e)
          · exact absurd e (by assumption)
        · exact twx_w hp
theorem pw_w (hz : SZx s) {f : Int} : ∀ (n : Nat) (i x : Int), (∀ m : Nat, m < n → c.2.2.1 (f + i + m).toNat) → WOx c s p (pwx s f n i x)
  | 0, _, _, _ => WO_nil
  | n + 1, i, x, h => by
    refine WO_app (WO_F (asx_w hz ?_)) (pw_w hz n (i + 1) (flx s x) (fun m hm => ?_))
    · have := h 0 (by omega)
      rw [show f + i + ((0 : Nat) : Int) = f + i by omega] at this
      exact this
    · have := h (m + 1) (by omega)
      rw [show f + i + ((m + 1 : Nat) : Int) = f + (i + 1) + (m : Int) by omega] at this
      exact this
theorem nth_c {i : Nat} {x : Int} (hx : ∀ i, 0 ≤ nth s i x → CHx (EF s) c p (nth s i x)) : 0 ≤ nth s i x → c.1 (nth s i x).toNat := fun q => CE_p (hx i q) q
theorem cw_w (hz : SZx s) (h : EF s c p) (hk : s 100 p = 404) (hph : PHx s p) : WOx c s p (cwx s p (trn s p)).1 := by
  obtain ⟨hp, _, _, _, _, _, _, k5, _⟩ := EF_k h
  obtain ⟨a1, a2, a3, a4, a5, a6⟩ := k5 hk
  have h0 := trn_0 (s := s) (p := p)
  unfold cwx
  split
  · rename_i u1
    refine WO_app (WO_one (FW_p (by omega) hp)) (WO_F (awx_w ?_))
    by_cases u0 : trn s p = 0
    · rw [if_pos u0]
      exact CE_p (a3 0 (by omega))
    · rw [if_neg u0, hph.2.1 hk (by omega) (by omega), ← nth_s]
      exact CE_p (a3 _ (by omega))
  · split
    · rename_i u1
      have e1 : fpx s (s 101 p) = s 113 (s 101 p).toNat := if_pos ⟨a1.1, a1.2.1⟩
      have e2 : bdx s (s 101 p) = s 114 (s 101 p).toNat := if_pos ⟨a1.1, a1.2.1⟩
      rw [e1, e2]
      refine WO_app (WO_app (pw_w hz _ _ _ (fun m hm => ?_)) (WO_one (FW_p (by omega) hp))) (WO_F (awx_w ?_))
      · rw [show (s 113 (s 101 p).toNat + 0 + (m : Int)).toNat = (s 113 (s 101 p).toNat).toNat + m by omega]
        exact a4.2.2 m hm
      · exact CE_p (a6 0 a5)
    · rename_i u1 u2
      obtain ⟨i, hi⟩ := hph.2.2 hk (by omega)
      refine WO_app (WO_one (FW_p (by omega) hp)) (ot_w hp ?_)
      rw [hi, ← nth_s]
      exact nth_c a6
theorem bw_w : ∀ (n : Nat) (x : Int), (∀ i, i < n → 0 ≤ nth s i x → c.1 (nth s i x).toNat) → WOx c s p (bwx s p n x).1
  | 0, _, _ => WO_nil
  | n + 1, x, h => WO_app (WO_F (awx_w (h 0 (by omega)))) (bw_w n (flx s x) (fun i hi => h (i + 1) (by omega)))
theorem gw_w (h : EF s c p) (hph : PHx s p) : WOx c s p (gwx s p (trn s p)).1 := by
  obtain ⟨hp, _, _, _, _, _, _, _, _, _, _, k9, k10, k11, k12, k13⟩ := EF_k h
  have h0 := trn_0 (s := s) (p := p)
  unfold gwx
  split
  · rename_i e
    obtain ⟨a1, a2, a3⟩ := k10 e
    split
    · exact WO_F (awx_w (CE_p a1))
    · refine ot_w hp ?_
      split
      · split
        · exact CE_p a2
        · rcases a3 with a3 | a3
          · intro q
            omega
          · exact CE_p a3
      · intro q
        omega
  · split
    · rename_i e
      obtain ⟨a1, a2⟩ := k11 e
      split
      · exact WO_F (awx_w (CE_p a1))
      · refine ot_w hp ?_
        split
        · exact CE_p a2
        · intro q
          omega
    · split
      · rename_i e
        refine ot_w hp ?_
        split
        · exact CE_p (k12 e)
        · intro q
          omega
      · split
        · rename_i e
          obtain ⟨a1, a2⟩ := k9 e
          refine WO_app (WO_one (FW_p (by omega) hp)) (ot_w hp ?_)
          by_cases u0 : trn s p = 0
          · rw [if_pos u0]
            exact nth_c (i := 0) a2
          · rw [if_neg u0]
            obtain ⟨i, hi⟩ := hph.1 e (by omega)
            rw [hi, ← nth_s]
            exact nth_c a2
        · split
          · rename_i e
            obtain ⟨a1, cs, a2, a3⟩ := k13 e
            split
            · exact bw_w _ _ (fun i hi q => (a2 i hi).1.1 _ (EF_p (a2 i hi).2.2.2.2))
            · split
              · exact twx_w hp
              · exact WO_nil
          · exact twx_w hp
end LOCX
