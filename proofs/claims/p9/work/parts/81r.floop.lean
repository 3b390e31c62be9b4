/-! The branches of a par, one by one. -/
/-- k of n are made: r is the table at hand, where b still goes -/
def FL (F : Ph) (b n k : Nat) (y : Nat → fR) (x0 : fR) (M : Nat) (u : Nat → Nat) (r : tab) : Prop := ∃ (G : Nat → gB) (own : Nat → Nat → Prop), FK F b k (up2 r 206 b 6) G own ∧ mu (up2 r 206 b 6) G = M + sm u k ∧ bx (G b) 0 = x0 ∧ ∀ i, k ≤ i → i < n → own b (fow (y i)) ∧ ∀ m, fz (y i) m → own b m
/-- what the frames of the branches are to each other and to their parent's -/
def FY (b n : Nat) (y : Nat → fR) (x0 : fR) : Prop := (∀ i, i < n → fz x0 (fow (y i)) ∧ (∀ m, fz (y i) m → fz x0 m) ∧ fk (y i) = 1 ∧ frk (y i) ≤ 12 ∧ frm (y i) ≤ 1000 ∧ ¬ fz (y i) (fow (y i))) ∧ (1 ≤ b → ¬ fz x0 (fow x0)) ∧ (∀ m, fz x0 m → m < 699) ∧ ∀ i j, i < n → j < n → i ≠ j → fow (y i) ≠ fow (y j) ∧ ¬ fz (y j) (fow (y i)) ∧ ∀ m, fz (y i) m → ¬ fz (y j) m
section FLOOP
variable {F : Ph} {b n k M : Nat} {y : Nat → fR} {x0 : fR} {u : Nat → Nat} {r r2 : tab}
theorem FL_room (h : FL F b n k y x0 M u r) (hk : k < n) (hy : FY b n y x0) (hall : ∀ c : Nat, (c : Int) < r 170 55 → r 206 c ≠ 0) : r 170 55 < 700 := by
  obtain ⟨G, own, h1, h2, h3, h4⟩ := h
  obtain ⟨y1, y2, y3, y4⟩ := hy
  have e55 : up2 r 206 b 6 170 55 = r 170 55 := up_nk (by omega)
  have := FK_room h1 (h4 k (Nat.le_refl _) hk).1 (y3 _ (y1 k hk).1) (fun hb e => by
    rw [h3] at e
    have z := (y1 k hk).1
    rw [e] at z
    exact y2 hb z) (fun c hc => by
    by_cases e : c = b
    · subst e; rw [up_self]; omega
    · rw [up_nj e]; exact hall c (by omega))
  omega
theorem FL_next {o t : Nat} (h : FL F b n k y x0 M u r) (hk : k < n) (hy : FY b n y x0) (hbg : r 206 b = 1) (hob : (o : Int) < r 170 55 ∧ r 206 o = 0 ∧ r2 170 55 = r 170 55 ∨ (o : Int) = r 170 55 ∧ r2 170 55 = r 170 55 + 1 ∧ r 170 55 < 700) (hf : ∀ i j, ¬ (205 ≤ i ∧ i ≤ 211 ∧ j = o) → ¬ (i = 170 ∧ j = 55) → r2 i j = r i j) (h5 : r2 205 o = (t : Int)) (h6 : r2 206 o = 1) (h8 : r2 208 o = 0) (h9 : r2 209 o = 0) (h10 : r2 210 o = (b : Int)) (hF : F t 0 (u k) (y k)) : FL F b n (k + 1) y x0 M u r2 ∧ o ≠ b := by
  obtain ⟨G, own, h1, h2, h3, h4⟩ := h
  obtain ⟨y1, y2, y3, y4⟩ := hy
  have e55 : up2 r 206 b 6 170 55 = r 170 55 := up_nk (by omega)
  have e55b : up2 r2 206 b 6 170 55 = r2 170 55 := up_nk (by omega)
  have hbl : (b : Int) < r 170 55 := by have := h1.2.2.2.2.2.2; omega
  have hob2 : o ≠ b := fun e => by subst e; omega
  obtain ⟨a1, a2, a3, a4, a5, a6⟩ := y1 k hk
  obtain ⟨w1, w2⟩ := h4 k (Nat.le_refl _) hk
  have hc := FK_child (r2 := up2 r2 206 b 6) (o := o) (t := t) (w := u k) (y := y k) h1 (by rw [e55, e55b, up_nj hob2]; exact hob) (fun i j q1 q2 => by
    by_cases e : i = 206 ∧ j = b
    · obtain ⟨rfl, rfl⟩ := e
      rw [up_self, up_self]
    · exact ((if_neg e).trans (hf i j q1 q2)).trans (if_neg e).symm) ((up_nk (by omega)).trans h5) ((up_nj hob2).trans h6) ((up_nk (by omega)).trans h8) ((up_nk (by omega)).trans h9) ((up_nk (by omega)).trans h10) hF a3 a4 a5 w1 w2 (y3 _ a1) (fun m q => y3 m (a2 m q)) a6 (fun hb => by
    rw [h3]
    exact ⟨fun q => y2 hb (a2 _ q), fun q => y2 hb (by rw [q]; exact a1)⟩)
  refine ⟨⟨_, _, hc.1, ?_, ?_, fun i hi hn => ?_⟩, hob2⟩
  · rw [hc.2, h2]
    show _ = M + (sm u k + u k)
    omega
  · rw [gup_ne (fun e => hob2 e.symm)]
    exact h3
  · obtain ⟨z1, z2⟩ := h4 i (by omega) hn
    obtain ⟨p1, p2, p3⟩ := y4 i k hn hk (by omega)
    obtain ⟨p4, p5, p6⟩ := y4 k i hk hn (by omega)
    rw [gup_ne (fun e => hob2 e.symm), gup_self]
    refine ⟨⟨z1, fun q => ?_⟩, fun m hm => ⟨z2 m hm, fun q => ?_⟩⟩
    · rcases q with q | q
      · exact p2 q
      · exact p1 q
    · rcases q with q | q
      · exact p3 m hm q
      · rw [q] at hm; exact p5 hm
end FLOOP
