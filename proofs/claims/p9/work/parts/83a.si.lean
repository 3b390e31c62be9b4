/-! The reference between calls. -/
def LO (r r2 : tab) : Prop := ∀ k j, k < 170 → r2 k j = r k j
def CWF (C : Nat) (r : tab) (F : Ph) (w0 na st : Nat) : Prop := (∀ p h w x, F p h w x → inst na (r (C + 1)) F p h w x) ∧ F st 0 w0 (0, 12, 1000, 0, fun n => n < 699) ∧ r C 2 = (st : Int) ∧ r C 5 = (na : Int) ∧ na ≤ 6 ∧ ∀ a : Nat, a < na → 1 ≤ r (C + 3) a ∧ r (C + 3) a ≤ 64
def PT (C : Nat) (r : tab) : Prop := 0 ≤ r C 7 ∧ r C 7 ≤ 4 ∧ 0 ≤ r C 8 ∧ r C 8 ≤ 4
/-- how the work stands -/
def SW (F : Ph) (r : tab) : Prop := r 170 52 = 1 ∨ r 170 52 = 3 ∨ (r 170 52 = 0 ∨ r 170 52 = 2) ∧ ∃ (G : Nat → gB) (own : Nat → Nat → Prop), RI F r G own
def SA (C : Nat) (r : tab) : Prop := r 170 20 = 0 ∨ r 170 20 = 1 ∧ HD r ∧ PT C r ∧ LK C r ∧ ∃ (F : Ph) (w0 na st : Nat), CWF C r F w0 na st ∧ SW F r
def SI (C D : Nat) (r : tab) : Prop := (C = 177 ∧ D = 186 ∨ C = 186 ∧ D = 177) ∧ (0 ≤ r 170 1 ∧ r 170 1 ≤ 2000) ∧ r 170 17 = (C : Int) ∧ r 170 18 = (D : Int) ∧ SA C r
/-- what a call of the reference gives: the tape's size is t -/
def MP (c : Nat) (t : Int → Prop) (s : rS) : rS → hm_Out → Prop := fun s2 out => (∃ v : Value, out = some (some v) ∧ v.category = c) ∧ s2.2 = s.2 ∧ RF s2.1 ∧ LO s.1 s2.1 ∧ (∃ C D, SI C D s2.1) ∧ t (s2.1 170 1)
section SIS
variable {C D na st w0 : Nat} {F : Ph} {r r2 : tab}
theorem RX_LO (h : RX r r2) : LO r r2 := fun k j hk => h k j (by unfold RS; omega)
theorem CWF_at (e1 : r2 (C + 1) = r (C + 1)) (e3 : ∀ j, r2 (C + 3) j = r (C + 3) j) (e2 : ∀ j, j < 52 → r2 C j = r C j) (h : CWF C r F w0 na st) : CWF C r2 F w0 na st := by
  obtain ⟨a1, a2, a3, a4, a5, a6⟩ := h
  exact ⟨by rw [e1]; exact a1, a2, by rw [e2 _ (by omega)]; exact a3, by rw [e2 _ (by omega)]; exact a4, a5, fun a ha => by rw [e3]; exact a6 a ha⟩
/-- nothing of the circuit at hand has changed -/
theorem SA_at (hC : C = 177 ∨ C = 186) (h : SA C r) (e : ∀ k j, C ≤ k → k ≤ C + 8 → r2 k j = r k j) (e20 : r2 170 20 = r 170 20) (hH : HD r → HD r2) (hS : ∀ F, SW F r → SW F r2) : SA C r2 := by
  rcases h with h | ⟨h1, h2, h3, h4, F, w0, na, st, h5, h6⟩
  · exact .inl (e20.trans h)
  · refine .inr ⟨e20.trans h1, hH h2, ?_, LK_at h4 (fun k j hk => e k j (by omega) (by omega)), F, w0, na, st, CWF_at (funext fun j => e _ _ (by omega) (by omega)) (fun j => e _ _ (by omega) (by omega)) (fun j _ => e _ _ (by omega) (by omega)) h5, hS F h6⟩
    unfold PT at h3 ⊢
    rw [e _ _ (by omega) (by omega), e _ _ (by omega) (by omega)]
    exact h3
theorem SW_at (h : SW F r) (e : ∀ k, k ≠ 170 → 205 ≤ k → ¬ (1622 ≤ k ∧ k ≤ 1630) → r2 k = r k) (e55 : r2 170 55 = r 170 55) (e52 : r2 170 52 = r 170 52) : SW F r2 := by
  rcases h with h | h | ⟨h, G, own, h2⟩
  · exact .inl (e52.trans h)
  · exact .inr (.inl (e52.trans h))
  · refine .inr (.inr ⟨by omega, G, own, ?_⟩)
    have e5 := e 205 (by omega) (by omega) (by omega)
    have e6 := e 206 (by omega) (by omega) (by omega)
    have e7 := e 207 (by omega) (by omega) (by omega)
    have e8 := e 208 (by omega) (by omega) (by omega)
    have e9 := e 209 (by omega) (by omega) (by omega)
    have e10 := e 210 (by omega) (by omega) (by omega)
    have e11 := e 211 (by omega) (by omega) (by omega)
    have h3 : ∀ b, lv1 r b → r2 (921 + b) = r (921 + b) := fun b hb => e _ (by omega) (by omega) (by have := hb.1; have := h2.1.2; omega)
    obtain ⟨a1, a2, a3, a4⟩ := h2
    refine ⟨by rw [e55]; exact a1, fun b hb => ?_, ?_, ?_⟩
    · have hb1 : lv1 r b := by unfold lv1 at hb ⊢; rw [e55, e6] at hb; exact hb
      have := a2 b hb1
      simp only [BI, B2, e5, e6, e7, e8, e9, h3 b hb1] at this ⊢
      exact this
    · simp only [OW, lv1, e6, e10, e55] at a3 ⊢
      exact a3
    · simp only [KD, lv1, kids, e6, e10, e11, e55] at a4 ⊢
      exact a4
theorem RI_begin (hF : F st 0 w0 (0, 12, 1000, 0, fun n => n < 699)) (h55 : r 170 55 = 1) (h5 : r 205 0 = (st : Int)) (h6 : r 206 0 = 1) (h8 : r 208 0 = 0) (h9 : r 209 0 = 0) (h10 : r 210 0 = -1) : ∃ (G : Nat → gB) (own : Nat → Nat → Prop), RI F r G own := by
  have z : ∀ c, lv1 r c → c = 0 := fun c hc => by have := hc.1; omega
  refine ⟨fun _ => (0, fun _ => 0, fun _ => 0, fun _ => w0, fun _ => (0, 12, 1000, 0, fun n => n < 699)), fun _ n => n < 699, by omega, fun b hb => ?_, ⟨?_, ?_, ?_, ?_, ?_⟩, ?_, ?_, h10, by omega⟩
  · have hb0 := z b hb
    subst hb0
    rw [h6]
    refine ⟨⟨h9, fun i hi => ⟨?_, ?_, fun n q => q⟩, fun i hi => absurd hi (Nat.not_lt_zero _), rfl, ⟨st, h5, hF⟩, ?_, .inl ⟨rfl, rfl⟩⟩, by omega, by omega⟩
    · have h0 : i ≤ 0 := hi
      show i + 12 ≤ 12
      omega
    · show 0 + 1000 ≤ 1000
      omega
    · show r 208 0 = ((0 : Nat) : Int) + ((0 : Nat) : Int) + eo 1 ∧ ((0 : Nat) : Int) + ((0 : Nat) : Int) ≤ 1000 ∧ r 208 0 ≤ 1000 ∧ 0 ≤ r 208 0
      rw [show eo 1 = 0 from rfl, h8]
      omega
  · intro b c hb hc hn
    exact absurd ((z b hb).trans (z c hc).symm) hn
  · intro b hb h1
    exact absurd (z b hb) (by omega)
  · intro b hb _ n hn
    exact hn
  · intro b hb h0
    have := z b hb
    subst this
    omega
  · intro b hb n hn
    exact hn
  · intro c hc h1
    exact absurd (z c hc) (by omega)
  · intro b hb h0
    have := z b hb
    subst this
    omega
end SIS
/-- what begin does -/
def BGP (C : Nat) (s : rS) : rS → hm_Out → Prop := fun s2 out => (∃ z : Int, out = some (some (vi z))) ∧ s2.2 = s.2 ∧ RX s.1 s2.1 ∧ (s2 = s ∧ s.1 170 20 = 0 ∨ s.1 170 20 = 1 ∧ HD s2.1 ∧ s2.1 170 52 = 0 ∧ s2.1 170 55 = 1 ∧ s2.1 205 0 = s.1 C 2 ∧ s2.1 206 0 = 1 ∧ s2.1 208 0 = 0 ∧ s2.1 209 0 = 0 ∧ s2.1 210 0 = -1)
