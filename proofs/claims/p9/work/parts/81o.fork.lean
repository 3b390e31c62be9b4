/-! A branch that makes others. -/
def FK (F : Ph) (b k : Nat) (r : tab) (G : Nat → gB) (own : Nat → Nat → Prop) : Prop := (1 ≤ r 170 55 ∧ r 170 55 ≤ 700) ∧ (∀ c, lv1 r c → BI F r c (G c) (eo (r 206 c)) ∧ (1 ≤ r 206 c ∧ r 206 c ≤ 6) ∧ ((r 206 c = 4 ∨ r 206 c = 5) → 0 ≤ r 207 c ∧ r 207 c < 4)) ∧ OW r G own ∧ ((∀ c, lv1 r c → 1 ≤ c → ∃ p : Nat, r 210 c = (p : Int) ∧ lv1 r p ∧ r 206 p = 6) ∧ (∀ c, lv1 r c → r 206 c = 6 → c ≠ b → r 211 c = (kids r c : Int) ∧ 1 ≤ kids r c) ∧ r 210 0 = -1 ∧ r 206 0 ≠ 0) ∧ kids r b = k ∧ r 206 b = 6 ∧ (b : Int) < r 170 55
section FORK
variable {F : Ph} {G : Nat → gB} {own : Nat → Nat → Prop} {b k : Nat} {r r2 : tab}
theorem FK_RI (h : FK F b k r G own) (hk : 1 ≤ k) (hf : ∀ i j, ¬ (i = 211 ∧ j = b) → r2 i j = r i j) (h11 : r2 211 b = (k : Int)) : RI F r2 G own ∧ mu r2 G = mu r G := by
  have e55 : r2 170 55 = r 170 55 := hf _ _ (by omega)
  have e6 : ∀ j, r2 206 j = r 206 j := fun j => hf _ _ (by omega)
  have e10 : ∀ j, r2 210 j = r 210 j := fun j => hf _ _ (by omega)
  have el : ∀ c, lv1 r2 c ↔ lv1 r c := fun c => by unfold lv1; rw [e55, e6]
  have ek : ∀ c, kids r2 c = kids r c := fun c => by
    unfold kids
    rw [e55]
    exact sm_ext fun i _ => by simp only [e10, e6]
  obtain ⟨i1, i2, ⟨o1, o2, o3, o4, o5⟩, ⟨k1, k2, k3, k4⟩, h1, h2, h3⟩ := h
  refine ⟨⟨by rw [e55]; exact i1, fun c hc => ?_, ⟨fun c d q1 q2 => o1 c d ((el c).mp q1) ((el d).mp q2), fun c q1 => o2 c ((el c).mp q1), fun c q1 q2 => o3 c ((el c).mp q1) (by rw [← e6]; exact q2), fun c q1 q2 n q3 => ?_, fun c q1 => o5 c ((el c).mp q1)⟩, fun c q1 q2 => ?_, fun c q1 q2 => ?_, by rw [e10]; exact k3, by rw [e6]; exact k4⟩, ?_⟩
  · have hi := i2 c ((el c).mp hc)
    rw [e6, hf 207 c (by omega)]
    exact ⟨BI_at hi.1 (hf _ _ (by omega)) (hf _ _ (by omega)) (hf _ _ (by omega)) (fun i => hf _ _ (by omega)), hi.2⟩
  · rw [e6] at q2
    rcases o4 c ((el c).mp q1) q2 n q3 with q | ⟨c2, z1, z2, z3, z4⟩
    · exact .inl q
    · exact .inr ⟨c2, (el c2).mpr z1, z2, (e10 c2).trans z3, z4⟩
  · obtain ⟨p, p1, p2, p3⟩ := k1 c ((el c).mp q1) q2
    exact ⟨p, (e10 c).trans p1, (el p).mpr p2, (e6 p).trans p3⟩
  · rw [e6] at q2
    rw [ek]
    by_cases e : c = b
    · subst e
      rw [h1]
      exact ⟨h11, hk⟩
    · rw [hf 211 c (by omega)]
      exact k2 c ((el c).mp q1) q2 e
  · unfold mu
    rw [e55]
    exact sm_ext fun i _ => by simp only [e6]
/-- b begins to wait for branches that are still to be made -/
theorem FK_0 {g2 : gB} (h : RI F r G own) (hb : (b : Int) < r 170 55) (hg : r 206 b = 1) (hb7 : b < 700) (hf : ∀ i j, ¬ ((i = 205 ∨ i = 206 ∨ i = 208) ∧ j = b) → ¬ (i = 211 ∧ j = b) → ¬ (i = 220 + b) → ¬ (i = 203 ∨ i = 204 ∨ 213 ≤ i ∧ i ≤ 218) → r2 i j = r i j) (h6 : r2 206 b = 6) (hB : BI F r2 b g2 0) (hx : bx g2 0 = bx (G b) 0) : FK F b 0 r2 (gup G b g2) own ∧ mu r2 (gup G b g2) + pot (G b) 1 = mu r G + pot g2 1 := by
  have hlb : lv1 r b := ⟨hb, by omega⟩
  have e55 : r2 170 55 = r 170 55 := hf _ _ (by omega) (by omega) (by omega) (by omega)
  have e6 : ∀ j, j ≠ b → r2 206 j = r 206 j := fun j hj => hf _ _ (by omega) (by omega) (by omega) (by omega)
  have e60 : ∀ j, r2 206 j = 0 ↔ r 206 j = 0 := fun j => by
    by_cases e : j = b
    · subst e; omega
    · rw [e6 j e]
  have e10 : ∀ j, r2 210 j = r 210 j := fun j => hf _ _ (by omega) (by omega) (by omega) (by omega)
  have el : ∀ c, lv1 r2 c ↔ lv1 r c := fun c => by unfold lv1; rw [e55, ne_eq, ne_eq, e60]
  have ex : ∀ c, bx (gup G b g2 c) 0 = bx (G c) 0 := fun c => by
    by_cases e : c = b
    · subst e; rw [gup_self]; exact hx
    · rw [gup_ne e]
  have ek : ∀ c, kids r2 c = kids r c := fun c => by
    unfold kids
    rw [e55]
    exact sm_ext fun i _ => by simp only [e10, ne_eq, e60]
  have hb2 : b < (r 170 55).toNat := by omega
  obtain ⟨i1, i2, ⟨o1, o2, o3, o4, o5⟩, k1, k2, k3, k4⟩ := h
  have hnk : ∀ c, lv1 r c → r 210 c ≠ (b : Int) := fun c hc e => by
    by_cases e0 : c = 0
    · subst e0; omega
    · obtain ⟨p, p1, p2, p3⟩ := k1 c hc (by omega)
      have : p = b := by omega
      subst this
      omega
  have hk0 : kids r b = 0 := by
    unfold kids
    have : ∀ n : Nat, (n : Int) ≤ r 170 55 → sm (fun c => if r 206 c ≠ 0 ∧ r 210 c = (b : Int) then 1 else 0) n = 0 := fun n => by
      induction n with
      | zero => exact fun _ => rfl
      | succ n ih =>
        intro hn
        show sm _ n + (if r 206 n ≠ 0 ∧ r 210 n = (b : Int) then 1 else 0) = 0
        rw [ih (by omega), if_neg (fun q => hnk n ⟨by omega, q.1⟩ q.2)]
    exact this _ (by omega)
  refine ⟨⟨by rw [e55]; exact i1, fun c hc => ?_, ⟨fun c d q1 q2 => o1 c d ((el c).mp q1) ((el d).mp q2), fun c q1 => by rw [ex]; exact o2 c ((el c).mp q1), fun c q1 q2 n q3 => ?_, fun c q1 q2 n q3 => ?_, fun c q1 => by rw [ex]; exact o5 c ((el c).mp q1)⟩, ⟨fun c q1 q2 => ?_, fun c q1 q2 q3 => ?_, by rw [e10]; exact k3, fun e => k4 ((e60 0).mp e)⟩, by rw [ek]; exact hk0, h6, by omega⟩, ?_⟩
  · by_cases e : c = b
    · subst e
      rw [gup_self, h6]
      exact ⟨hB, by omega, fun q => by omega⟩
    · have hi := i2 c ((el c).mp hc)
      rw [gup_ne e, e6 c e, hf 207 c (by omega) (by omega) (by omega) (by omega)]
      exact ⟨BI_at hi.1 (hf _ _ (by omega) (by omega) (by omega) (by omega)) (hf _ _ (by omega) (by omega) (by omega) (by omega)) (hf _ _ (by omega) (by omega) (by omega) (by omega)) (fun i => hf _ _ (by omega) (by omega) (by have := ((el c).mp hc).1; omega) (by omega)), hi.2⟩
  · have e : c ≠ b := fun e => by rw [e] at q2; exact q2 h6
    rw [ex] at q3
    exact o3 c ((el c).mp q1) (by rw [← e6 c e]; exact q2) n q3
  · rw [ex] at q3
    by_cases e : c = b
    · subst e
      exact .inl (o3 c hlb (by omega) n q3)
    · rw [e6 c e] at q2
      rcases o4 c ((el c).mp q1) q2 n q3 with q | ⟨c2, z1, z2, z3, z4⟩
      · exact .inl q
      · exact .inr ⟨c2, (el c2).mpr z1, z2, (e10 c2).trans z3, by rw [ex]; exact z4⟩
  · obtain ⟨p, p1, p2, p3⟩ := k1 c ((el c).mp q1) q2
    have e : p ≠ b := fun e => by rw [e] at p3; omega
    exact ⟨p, (e10 c).trans p1, (el p).mpr p2, (e6 p e).trans p3⟩
  · rw [e6 c q3] at q2
    rw [ek, hf 211 c (by omega) (by omega) (by omega) (by omega)]
    exact k2 c ((el c).mp q1) q2
  · unfold mu
    rw [e55]
    have := sm_one (u := fun c => if r2 206 c = 0 then 0 else pot (gup G b g2 c) (r2 206 c)) (v := fun c => if r 206 c = 0 then 0 else pot (G c) (r 206 c)) hb2 (fun j _ hj => by
      show (if r2 206 j = 0 then 0 else pot (gup G b g2 j) (r2 206 j)) = _
      rw [gup_ne hj, e6 j hj])
    have z1 : ¬ (6 : Int) = 0 := by omega
    have z0 : ¬ (1 : Int) = 0 := by omega
    have z6 : pot g2 6 = pot g2 1 := by unfold pot; rw [if_neg (by omega), if_neg (by omega)]
    simp only [hg, h6, gup_self, if_neg z1, if_neg z0, z6] at this
    exact this
end FORK
