/-! What the small calls of the reference keep. -/
section SIFR
variable {C D : Nat} {r r2 : tab}
theorem SI_C (h : SI C D r) : C = 177 ∨ C = 186 := by rcases h.1 with q | q <;> omega
theorem SI_fr (h : SI C D r) (hf : ∀ k j, ¬ (k = 170 ∧ j = 1) → ¬ (1622 ≤ k ∧ k ≤ 1630) → r2 k j = r k j) (ht : 0 ≤ r2 170 1 ∧ r2 170 1 ≤ 2000) (hH : HD r → HD r2) : SI C D r2 := by
  have hC := SI_C h
  obtain ⟨h1, h2, h3, h4, h5⟩ := h
  exact ⟨h1, ht, (hf _ _ (by omega) (by omega)).trans h3, (hf _ _ (by omega) (by omega)).trans h4, SA_at hC h5 (fun k j a b => hf k j (by omega) (by omega)) (hf _ _ (by omega) (by omega)) hH (fun F q => SW_at q (fun k e1 e2 e3 => funext fun j => hf k j (by omega) e3) (hf _ _ (by omega) (by omega)) (hf _ _ (by omega) (by omega)))⟩
theorem SA_get (h : SI C D r) (h20 : r 170 20 ≠ 0) : HD r ∧ PT C r ∧ LK C r ∧ ∃ na : Nat, (r C 5 = (na : Int) ∧ na ≤ 6) ∧ ∀ a : Nat, a < na → 1 ≤ r (C + 3) a ∧ r (C + 3) a ≤ 64 := by
  rcases h.2.2.2.2 with q | ⟨_, h2, h3, h4, F, w0, na, st, h5, h6⟩
  · exact absurd q h20
  · exact ⟨h2, h3, h4, na, ⟨h5.2.2.2.1, h5.2.2.2.2.1⟩, h5.2.2.2.2.2⟩
theorem MP_same {c : Nat} {s : rS} {out : hm_Out} {v : Value} (ho : out = some (some v)) (hv : v.category = c) (hR : RF s.1) (h : SI C D s.1) : MP c (fun t => t = s.1 170 1) s s out := ⟨⟨v, ho, hv⟩, rfl, hR, fun _ _ _ => rfl, ⟨C, D, h⟩, rfl⟩
end SIFR
