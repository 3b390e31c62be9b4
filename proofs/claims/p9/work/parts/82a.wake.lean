/-! Branches that are woken. -/
def WK (F : Ph) (G : Nat → gB) (own : Nat → Nat → Prop) (b : Nat) (s : rS) : rS → hm_Out → Prop := fun s2 out => s2 = s ∧ out = some (some (vi 0)) ∨ out = some (some (vi 1)) ∧ s2.2 = s.2 ∧ RF s2.1 ∧ RX s.1 s2.1 ∧ (∀ j, s2.1 170 j = s.1 170 j) ∧ (∀ i, s2.1 1630 i = s.1 1630 i) ∧ ∃ G2 : Nat → gB, RI F (up2 s2.1 206 b 1) G2 own ∧ (mu (up2 s2.1 206 b 1) G2 < mu s.1 G ∨ mu (up2 s2.1 206 b 1) G2 = mu s.1 G ∧ cans (up2 s2.1 206 b 1) = cans s.1)
section WAKE
variable {F : Ph} {G : Nat → gB} {own : Nat → Nat → Prop} {b : Nat} {r r2 : tab}
theorem BI_top {g : gB} {e : Int} (h : BI F r b g e) (h5 : r2 205 b = r 205 b) (h9 : r2 209 b = r 209 b) (hbk : ∀ i, r2 (921 + b) i = r (921 + b) i) (h8 : r2 208 b = r 208 b - e) : BI F r2 b g 0 := by
  obtain ⟨a1, a2, a3, a4, a5, a6, a7⟩ := h
  refine ⟨by rw [h9]; exact a1, a2, fun i hi => ?_, a4, by rw [h5]; exact a5, by omega, a7⟩
  have := a3 i hi
  unfold B2 at this ⊢
  rw [hbk]
  exact this
/-- one that waits for a port, and may go on -/
theorem WK_port (hI : RI F r G own) (hb : (b : Int) < r 170 55) (h : r 206 b = 4 ∨ r 206 b = 5) (hc : can r b) : RI F (up2 r 206 b 1) (gup G b (G b)) own ∧ mu (up2 r 206 b 1) (gup G b (G b)) = mu r G ∧ cans (up2 r 206 b 1) = cans r := by
  obtain ⟨B, _, _⟩ := hI.2.1 b ⟨hb, by omega⟩
  have ef : ∀ k j, ¬ (k = 206 ∧ j = b) → up2 r 206 b 1 k j = r k j := fun k j e => if_neg e
  have e0 : eo (r 206 b) = 0 := by unfold eo; rw [if_neg (by omega), if_neg (by omega)]
  rw [e0] at B
  obtain ⟨q1, q2, _⟩ := RI_loc (r2 := up2 r 206 b 1) (g2 := G b) (h0 := r 206 b) (h1 := 1) hI hb rfl (by omega) up_self (by omega) (ef _ _ (by omega)) (fun k j hk => ef k j (by omega)) (fun j hj => ⟨ef _ _ (by omega), ef _ _ (by omega), ef _ _ (by omega), ef _ _ (by omega), ef _ _ (by omega)⟩) (fun j hj _ i => ef _ _ (by omega)) (by omega) (BI_at B (ef _ _ (by omega)) (ef _ _ (by omega)) (ef _ _ (by omega)) (fun i => ef _ _ (by omega))) rfl
  refine ⟨q1, ?_, ?_⟩
  · have : pot (G b) (r 206 b) = pot (G b) 1 := by unfold pot; rw [if_neg (by omega), if_neg (by omega)]
    omega
  · have := cans_one (r := r) (r2 := up2 r 206 b 1) hb (ef _ _ (by omega)) (fun i => ef _ _ (by omega)) (fun j hj => ⟨ef _ _ (by omega), ef _ _ (by omega)⟩)
    rw [if_pos hc, if_pos (show can (up2 r 206 b 1) b from .inl up_self)] at this
    omega
/-- a sender and a receiver that meet -/
theorem WK_pair {S R : Nat} (hI : RI F r G own) (hS : (S : Int) < r 170 55) (hRr : (R : Int) < r 170 55) (h2 : r 206 S = 2) (h3 : r 206 R = 3) (g6S : r2 206 S = 1) (g6R : r2 206 R = 1) (h8S : r2 208 S = r 208 S - 1) (h8R : r2 208 R = r 208 R + 1) (hfr : ∀ k j, ¬ (k = 206 ∧ (j = S ∨ j = R)) → ¬ (k = 208 ∧ (j = S ∨ j = R)) → ¬ (220 ≤ k ∧ k ≤ 919) → ¬ (k = 203 ∨ k = 204 ∨ 213 ≤ k ∧ k ≤ 218) → r2 k j = r k j) : ∃ G2 : Nat → gB, RI F r2 G2 own ∧ mu r2 G2 < mu r G := by
  have hn : S ≠ R := fun e => by subst e; omega
  have BS := (hI.2.1 S ⟨hS, by omega⟩).1
  have BR := (hI.2.1 R ⟨hRr, by omega⟩).1
  rw [h2] at BS
  rw [h3] at BR
  obtain ⟨r1, hr1⟩ : ∃ r1 : tab, r1 = up2 (up2 r 208 S (r 208 S - 1)) 206 S 1 := ⟨_, rfl⟩
  have m6 : r1 206 S = 1 := by rw [hr1]; exact up_self
  have m8 : r1 208 S = r 208 S - 1 := by rw [hr1, up_nk (by omega)]; exact up_self
  have mf : ∀ k j, ¬ ((k = 206 ∨ k = 208) ∧ j = S) → r1 k j = r k j := fun k j e => by rw [hr1]; exact (if_neg (by omega)).trans (if_neg (by omega))
  have p2 : pot (G S) 2 = pot (G S) 1 + 1 := by unfold pot; simp
  have p3 : pot (G R) 3 = pot (G R) 1 + 1 := by unfold pot; simp
  obtain ⟨q1, q2, _⟩ := RI_loc (r2 := r1) (b := S) (g2 := G S) (h0 := 2) (h1 := 1) hI hS h2 (by omega) m6 (by omega) (mf _ _ (by omega)) (fun k j hk => mf k j (by omega)) (fun j hj => ⟨mf _ _ (by omega), mf _ _ (by omega), mf _ _ (by omega), mf _ _ (by omega), mf _ _ (by omega)⟩) (fun j hj _ i => mf _ _ (by omega)) (by omega) (BI_top BS (mf _ _ (by omega)) (mf _ _ (by omega)) (fun i => mf _ _ (by omega)) m8) rfl
  have e55 : r1 170 55 = r 170 55 := mf _ _ (by omega)
  have f2 : ∀ k j, ¬ ((k = 206 ∨ k = 208) ∧ j = R) → ¬ (220 ≤ k ∧ k ≤ 919) → ¬ (k = 203 ∨ k = 204 ∨ 213 ≤ k ∧ k ≤ 218) → r2 k j = r1 k j := fun k j e1 e2 e3 => by
    by_cases a : k = 206 ∧ j = S
    · obtain ⟨rfl, rfl⟩ := a
      rw [g6S, m6]
    · by_cases c : k = 208 ∧ j = S
      · obtain ⟨rfl, rfl⟩ := c
        rw [h8S, m8]
      · rw [hfr k j (by omega) (by omega) e2 e3, mf k j (by omega)]
  obtain ⟨q4, q5, _⟩ := RI_loc (r := r1) (r2 := r2) (b := R) (g2 := G R) (h0 := 3) (h1 := 1) q1 (by omega) ((mf _ _ (by omega)).trans h3) (by omega) g6R (by omega) (f2 _ _ (by omega) (by omega) (by omega)) (fun k j hk => f2 k j (by omega) (by omega) (by omega)) (fun j hj => ⟨f2 _ _ (by omega) (by omega) (by omega), f2 _ _ (by omega) (by omega) (by omega), f2 _ _ (by omega) (by omega) (by omega), f2 _ _ (by omega) (by omega) (by omega), f2 _ _ (by omega) (by omega) (by omega)⟩) (fun j hj h9 i => f2 _ _ (by omega) (by omega) (by omega)) (by omega) (BI_top BR (hfr _ _ (by omega) (by omega) (by omega) (by omega)) (hfr _ _ (by omega) (by omega) (by omega) (by omega)) (fun i => hfr _ _ (by omega) (by omega) (by omega) (by omega)) (by rw [h8R]; rfl)) (by rw [gup_ne (fun e => hn e.symm)])
  refine ⟨_, q4, ?_⟩
  rw [gup_ne (fun e => hn e.symm)] at q5
  omega
theorem WK_two {S R o : Nat} {s sB sn : rS} (hR : RF s.1) (hI : RI F s.1 G own) (hS7 : S < 700) (hR7 : R < 700) (hS : (S : Int) < s.1 170 55) (hRr : (R : Int) < s.1 170 55) (h2 : s.1 206 S = 2) (h3 : s.1 206 R = 3) (hob : S = b ∧ R = o ∨ S = o ∧ R = b) (hD : LD R (up2 s.1 208 S (s.1 208 S - 1)) sB.1) (hq : sB.1 205 R = (up2 s.1 208 S (s.1 208 S - 1)) 205 R) (ht : sB.1 208 R = (up2 s.1 208 S (s.1 208 S - 1)) 208 R + 1) (hu : U1 206 o sB.1 sn.1) (hv : sn.1 206 o = 1) (hz : sn.2 = s.2) : WK F G own b s sn (some (some (vi 1))) := by
  have hn : S ≠ R := fun e => by subst e; omega
  have hfr : ∀ k j, ¬ (k = 206 ∧ j = o) → ¬ (k = 208 ∧ (j = S ∨ j = R)) → ¬ (k = 220 + R) → ¬ (k = 203 ∨ k = 204 ∨ 213 ≤ k ∧ k ≤ 218) → sn.1 k j = s.1 k j := fun k j e1 e2 e3 e4 => by
    by_cases a : k = 205 ∧ j = R
    · obtain ⟨rfl, rfl⟩ := a
      exact (hu _ _ (by omega)).trans (hq.trans (up_nk (by omega)))
    · exact (hu _ _ e1).trans ((hD k j (by omega) e3 e4).trans (if_neg (by omega)))
  have hX : RX s.1 sn.1 := fun k j e => hfr k j (fun q => e (by unfold RS; omega)) (fun q => e (by unfold RS; omega)) (fun q => e (by unfold RS; omega)) (fun q => e (by unfold RS; omega))
  have ef : ∀ k j, ¬ (k = 206 ∧ j = b) → up2 sn.1 206 b 1 k j = sn.1 k j := fun k j e => if_neg e
  have eo6 : up2 sn.1 206 b 1 206 o = 1 := by
    rw [ef _ _ (by omega)]
    exact hv
  have eb6 : up2 sn.1 206 b 1 206 b = 1 := up_self
  have t8 : sn.1 208 S = s.1 208 S - 1 := (hu _ _ (by omega)).trans ((hD _ _ (by omega) (by omega) (by omega)).trans up_self)
  have t9 : sn.1 208 R = s.1 208 R + 1 := (hu _ _ (by omega)).trans (ht.trans (by rw [up_nj (fun e => hn e.symm)]))
  obtain ⟨G2, g1, g2⟩ := WK_pair (r2 := up2 sn.1 206 b 1) hI hS hRr h2 h3 (by rcases hob with ⟨rfl, rfl⟩ | ⟨rfl, rfl⟩; exact eb6; exact eo6) (by rcases hob with ⟨rfl, rfl⟩ | ⟨rfl, rfl⟩; exact eo6; exact eb6) ((ef _ _ (by omega)).trans t8) ((ef _ _ (by omega)).trans t9) (fun k j e1 e2 e3 e4 => (ef _ _ (by omega)).trans (hfr k j (by omega) e2 (by omega) e4))
  exact .inr ⟨rfl, hz, RX_RF hX hR, hX, fun j => hfr _ _ (by omega) (by omega) (by omega) (by omega), fun i => hfr _ _ (by omega) (by omega) (by omega) (by omega), G2, g1, .inl g2⟩
end WAKE
