/-! A branch that is over. -/
section OVER
variable {F : Ph} {G : Nat → gB} {own : Nat → Nat → Prop} {b : Nat} {s s2 : rS}
/-- who is over has a parent that waits for it -/
theorem OV_par (hI : RI F s.1 G own) (hb : (b : Int) < s.1 170 55) (hg : s.1 206 b = 1) (hfk : fk (bx (G b) (bn (G b))) = 1) : 1 ≤ b ∧ bn (G b) = 0 ∧ ∃ a : Nat, s.1 210 b = (a : Int) ∧ lv1 s.1 a ∧ s.1 206 a = 6 ∧ s.1 211 a = (kids s.1 a : Int) ∧ 1 ≤ kids s.1 a := by
  have hB := (hI.2.1 b ⟨hb, by omega⟩).1
  have h0 : bn (G b) = 0 := by
    by_cases e : bn (G b) = 0
    · exact e
    · have := hB.2.2.1 (bn (G b) - 1) (by omega)
      unfold B2 at this
      rw [show bn (G b) - 1 + 1 = bn (G b) by omega] at this
      omega
  have h7 := hB.2.2.2.2.2.2
  rw [h0] at hfk
  have h1 : 1 ≤ b := by omega
  obtain ⟨a, a1, a2, a3⟩ := hI.2.2.2.1 b ⟨hb, by omega⟩ h1
  exact ⟨h1, h0, a, a1, a2, a3, hI.2.2.2.2.1 a a2 a3⟩
theorem ST_over {a : Nat} (hb7 : b < 700) (hR : RF s.1) (hI : RI F s.1 G own) (hb : (b : Int) < s.1 170 55) (hg : s.1 206 b = 1) (hst : s.1 170 52 = 2) (hfk : fk (bx (G b) (bn (G b))) = 1) (hw : 0 < bw (G b) (bn (G b))) (ha : s.1 210 b = (a : Int)) (hla : lv1 s.1 a) (ha6 : s.1 206 a = 6) (hX : RX s.1 s2.1) (hH : HD s2.1) (hc : s2.2 = s.2) (hf : ∀ k j, ¬ ((k = 205 ∨ k = 208) ∧ j = b) → ¬ (k = 220 + b) → ¬ (k = 203 ∨ k = 204 ∨ 213 ≤ k ∧ k ≤ 218) → ¬ (k = 206 ∧ (j = b ∨ j = a)) → ¬ (k = 211 ∧ j = a) → s2.1 k j = s.1 k j) (h6b : s2.1 206 b = 0) (h11 : s2.1 211 a = s.1 211 a - 1) (h6a : s2.1 206 a = if s.1 211 a - 1 = 0 then 1 else 6) : ON F G b s s2 (some none) := by
  have hlb : lv1 s.1 b := ⟨hb, by omega⟩
  have hab : a ≠ b := fun e => by rw [e] at ha6; omega
  obtain ⟨h1b, h0, -⟩ := OV_par hI hb hg hfk
  obtain ⟨i1, i2, ⟨o1, o2, o3, o4, o5⟩, k1, k2, k3⟩ := hI
  obtain ⟨k2a, k2b⟩ := k2 a hla ha6
  have e55 : s2.1 170 55 = s.1 170 55 := hf _ _ (by omega) (by omega) (by omega) (by omega) (by omega)
  have e54 : s2.1 170 54 = s.1 170 54 := hf _ _ (by omega) (by omega) (by omega) (by omega) (by omega)
  have e53 : s2.1 170 53 = s.1 170 53 := hf _ _ (by omega) (by omega) (by omega) (by omega) (by omega)
  have e52 : s2.1 170 52 = s.1 170 52 := hf _ _ (by omega) (by omega) (by omega) (by omega) (by omega)
  have e6 : ∀ j, j ≠ b → j ≠ a → s2.1 206 j = s.1 206 j := fun j hj hk => hf _ _ (by omega) (by omega) (by omega) (by omega) (by omega)
  have e10 : ∀ j, s2.1 210 j = s.1 210 j := fun j => hf _ _ (by omega) (by omega) (by omega) (by omega) (by omega)
  have hb2 : b < (s.1 170 55).toNat := by omega
  have hv : s2.1 206 a = 1 ∧ kids s.1 a = 1 ∨ s2.1 206 a = 6 ∧ 2 ≤ kids s.1 a := by
    rw [h6a, k2a]
    by_cases e : ((kids s.1 a : Nat) : Int) - 1 = 0
    · rw [if_pos e]; left; exact ⟨rfl, by omega⟩
    · rw [if_neg e]; right; exact ⟨rfl, by omega⟩
  have hn0 : ∀ j, j ≠ b → (s2.1 206 j = 0 ↔ s.1 206 j = 0) := fun j hj => by
    by_cases e : j = a
    · subst e; omega
    · rw [e6 j hj e]
  have el : ∀ c, lv1 s2.1 c ↔ lv1 s.1 c ∧ c ≠ b := fun c => by
    unfold lv1
    rw [e55]
    by_cases e : c = b
    · subst e
      exact ⟨fun q => absurd h6b q.2, fun q => absurd rfl q.2⟩
    · rw [ne_eq, hn0 c e]
      exact ⟨fun q => ⟨q, e⟩, fun q => q.1⟩
  have ek1 : kids s2.1 a + 1 = kids s.1 a := by
    unfold kids
    rw [e55]
    have := sm_one (u := fun c => if s2.1 206 c ≠ 0 ∧ s2.1 210 c = (a : Int) then 1 else 0) (v := fun c => if s.1 206 c ≠ 0 ∧ s.1 210 c = (a : Int) then 1 else 0) hb2 (fun j _ hj => by simp only [e10, ne_eq, hn0 j hj])
    have z1 : ¬ (s2.1 206 b ≠ 0 ∧ s2.1 210 b = (a : Int)) := fun q => q.1 h6b
    have z2 : s.1 206 b ≠ 0 ∧ s.1 210 b = (a : Int) := ⟨by omega, ha⟩
    simp only [if_neg z1, if_pos z2] at this
    omega
  have ek : ∀ c, c ≠ a → kids s2.1 c = kids s.1 c := fun c hca => by
    unfold kids
    rw [e55]
    refine sm_ext fun i _ => ?_
    by_cases e : i = b
    · subst e
      rw [if_neg (fun q => q.1 h6b), if_neg (fun q => hca (by have := q.2; omega))]
    · simp only [e10, ne_eq, hn0 i e]
  have e6i : ∀ c, lv1 s2.1 c → s2.1 206 c = 6 → s.1 206 c = 6 := fun c hc h6 => by
    by_cases e : c = a
    · rw [e]; exact ha6
    · rw [← e6 c ((el c).mp hc).2 e]; exact h6
  have hpa : pot (G a) (s2.1 206 a) = pot (G a) (s.1 206 a) := by
    unfold pot
    rw [if_neg (by omega), if_neg (by omega)]
  have hmu : mu s2.1 G + pot (G b) 1 = mu s.1 G := by
    unfold mu
    rw [e55]
    have := sm_one (u := fun c => if s2.1 206 c = 0 then 0 else pot (G c) (s2.1 206 c)) (v := fun c => if s.1 206 c = 0 then 0 else pot (G c) (s.1 206 c)) hb2 (fun j _ hj => by
      show (if s2.1 206 j = 0 then 0 else pot (G j) (s2.1 206 j)) = if s.1 206 j = 0 then 0 else pot (G j) (s.1 206 j)
      by_cases e : j = a
      · subst e
        rw [hpa, if_neg (by omega), if_neg (by omega)]
      · rw [e6 j hj e])
    have z1 : ¬ (1 : Int) = 0 := by omega
    simp only [h6b, hg, if_neg z1, if_true] at this
    omega
  have hpp : 0 < pot (G b) 1 := by
    have := sm_le (u := bw (G b)) (i := bn (G b)) (n := bn (G b) + 1) (by omega)
    unfold pot
    omega
  refine ⟨rfl, hc, RX_RF hX hR, hX, hH, .inr ⟨by omega, e54, G, gup own a (fun n => own a n ∨ own b n), ⟨by rw [e55]; exact i1, fun c hc2 => ?_, ⟨fun c c2 q1 q2 q3 n q4 => ?_, fun c q1 q2 => ?_, fun c q1 q2 n q3 => ?_, fun c q1 q2 n q3 => ?_, fun c q1 => o5 c ((el c).mp q1).1⟩, fun c q1 q2 => ?_, fun c q1 q2 => ?_, by rw [e10]; exact k3.1, fun e => k3.2 ((hn0 0 (by omega)).mp e)⟩, by omega, .inr ⟨e53, .inl (by omega)⟩⟩⟩
  · obtain ⟨q1, q2⟩ := (el c).mp hc2
    have hi := i2 c q1
    have hB := BI_at (r2 := s2.1) hi.1 (hf _ _ (by omega) (by omega) (by omega) (by omega) (by omega)) (hf _ _ (by omega) (by omega) (by omega) (by omega) (by omega)) (hf _ _ (by omega) (by omega) (by omega) (by omega) (by omega)) (fun i => hf _ _ (by omega) (by have := q1.1; omega) (by omega) (by omega) (by omega))
    by_cases e : c = a
    · subst e
      rw [ha6] at hB
      have ee : eo (s2.1 206 c) = eo 6 := by
        unfold eo
        rw [if_neg (by omega), if_neg (by omega), if_neg (by omega), if_neg (by omega)]
      rw [ee]
      exact ⟨hB, by omega, fun q => by omega⟩
    · rw [e6 c q2 e, hf 207 c (by omega) (by omega) (by omega) (by omega) (by omega)]
      exact ⟨hB, hi.2⟩
  · obtain ⟨l1, l2⟩ := (el c).mp q1
    obtain ⟨l3, l4⟩ := (el c2).mp q2
    by_cases ec : c = a
    · subst ec
      rw [gup_self] at q4
      rw [gup_ne (fun e => q3 e.symm)]
      rcases q4 with q4 | q4
      · exact o1 c c2 l1 l3 q3 n q4
      · exact o1 b c2 hlb l3 (fun e => l4 e.symm) n q4
    · rw [gup_ne ec] at q4
      by_cases ed : c2 = a
      · subst ed
        rw [gup_self]
        rintro (q5 | q5)
        · exact o1 c c2 l1 l3 q3 n q4 q5
        · exact o1 c b l1 hlb l2 n q4 q5
      · rw [gup_ne ed]
        exact o1 c c2 l1 l3 q3 n q4
  · have := o2 c ((el c).mp q1).1 q2
    by_cases ec : c = a
    · subst ec
      rw [gup_self]
      exact ⟨.inl this.1, this.2⟩
    · rw [gup_ne ec]; exact this
  · obtain ⟨l1, l2⟩ := (el c).mp q1
    by_cases ec : c = a
    · subst ec
      rw [gup_self]
      have hk0 : kids s2.1 c = 0 := by omega
      rcases o4 c l1 ha6 n q3 with q | ⟨c2, z1, z2, z3, z4⟩
      · exact .inl q
      · by_cases e2 : c2 = b
        · subst e2
          right
          rcases z4 with z4 | z4
          · exact o3 c2 hlb (by omega) n z4
          · rw [z4]; exact (o2 c2 hlb h1b).1
        · have hz := sm_zero hk0 c2 (by have := z1.1; omega)
          have y1 : s2.1 206 c2 ≠ 0 ∧ s2.1 210 c2 = (c : Int) := ⟨fun e => z1.2 ((hn0 c2 e2).mp e), (e10 c2).trans z3⟩
          simp only [if_pos y1] at hz
          omega
    · rw [gup_ne ec]
      rw [e6 c l2 ec] at q2
      exact o3 c l1 q2 n q3
  · obtain ⟨l1, l2⟩ := (el c).mp q1
    have l6 := e6i c q1 q2
    rcases o4 c l1 l6 n q3 with q | ⟨c2, z1, z2, z3, z4⟩
    · left
      by_cases ec : c = a
      · subst ec; rw [gup_self]; exact .inl q
      · rw [gup_ne ec]; exact q
    · by_cases e2 : c2 = b
      · subst e2
        have ec : c = a := by omega
        subst ec
        left
        rw [gup_self]
        right
        rcases z4 with z4 | z4
        · exact o3 c2 hlb (by omega) n z4
        · rw [z4]; exact (o2 c2 hlb h1b).1
      · exact .inr ⟨c2, (el c2).mpr ⟨z1, e2⟩, z2, (e10 c2).trans z3, z4⟩
  · obtain ⟨l1, l2⟩ := (el c).mp q1
    obtain ⟨p, p1, p2, p3⟩ := k1 c l1 q2
    have hpb : p ≠ b := fun e => by rw [e] at p3; omega
    refine ⟨p, (e10 c).trans p1, (el p).mpr ⟨p2, hpb⟩, ?_⟩
    by_cases e : p = a
    · subst e
      rcases hv with hv | hv
      · have hk0 : kids s2.1 p = 0 := by omega
        have hz := sm_zero hk0 c (by have := l1.1; omega)
        have y1 : s2.1 206 c ≠ 0 ∧ s2.1 210 c = (p : Int) := ⟨fun e => l1.2 ((hn0 c l2).mp e), (e10 c).trans p1⟩
        simp only [if_pos y1] at hz
        omega
      · exact hv.1
    · rw [e6 p hpb e]; exact p3
  · obtain ⟨l1, l2⟩ := (el c).mp q1
    have l6 := e6i c q1 q2
    by_cases e : c = a
    · subst e
      omega
    · rw [ek c e, hf 211 c (by omega) (by omega) (by omega) (by omega) (by omega)]
      exact k2 c l1 l6
end OVER
