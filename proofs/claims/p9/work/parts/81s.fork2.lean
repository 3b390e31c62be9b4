/-! A par, its beginning and its end. -/
section FORK2
variable {F : Ph} {G : Nat → gB} {own : Nat → Nat → Prop} {b n : Nat} {y : Nat → fR} {u : Nat → Nat} {r : tab} {s s2 : rS}
theorem FL_0 {p2 w2 : Nat} {f : Nat → Int} {q : Nat} {t : Nat → Nat} (hb7 : b < 700) (hI : RI F s.1 G own) (hb : (b : Int) < s.1 170 55) (hg : s.1 206 b = 1) (hD : LD b s.1 r) (h5 : r 205 b = (p2 : Int)) (h8 : r 208 b = s.1 208 b) (hF : F p2 (bh (G b) (bn (G b))) w2 (bx (G b) (bn (G b)))) (hc : ∀ i, i < n → f (q + i) = (t i : Int) ∧ F (t i) 0 (u i) (y i) ∧ fk (y i) = 1 ∧ frk (y i) ≤ 12 ∧ frm (y i) ≤ 1000 ∧ fz (bx (G b) (bn (G b))) (fow (y i)) ∧ ¬ fz (y i) (fow (y i)) ∧ ∀ n, fz (y i) n → fz (bx (G b) (bn (G b))) n) (hp : ∀ i j, i < n → j < n → i ≠ j → fow (y i) ≠ fow (y j) ∧ ¬ fz (y j) (fow (y i)) ∧ ∀ n, fz (y i) n → ¬ fz (y j) n) : FY b n y (bx (G b) 0) ∧ ∃ M, FL F b n 0 y (bx (G b) 0) M u r ∧ M + bw (G b) (bn (G b)) = mu s.1 G + w2 := by
  have hlb : lv1 s.1 b := ⟨hb, by omega⟩
  have hB0 := (hI.2.1 b hlb).1
  rw [hg] at hB0
  have hz := (hB0.2.1 (bn (G b)) (Nat.le_refl _)).2.2
  have h208 := hB0.2.2.2.2.2.1
  have he : eo 1 = 0 := by unfold eo; simp
  rw [he] at h208
  obtain ⟨o1, o2, o3, o4, o5⟩ := hI.2.2.1
  refine ⟨⟨fun i hi => ?_, fun h1 => (o2 b hlb h1).2.2, o5 b hlb, hp⟩, ?_⟩
  · obtain ⟨c1, c2, c3, c4, c5, c6, c7, c8⟩ := hc i hi
    exact ⟨hz _ c6, fun m q => hz m (c8 m q), c3, c4, c5, c7⟩
  have hB := BI_cur (r2 := up2 r 206 b 6) (p2 := p2) (h2 := bh (G b) (bn (G b))) (w2 := w2) hB0 ((up_nk (by omega)).trans h5) ((up_nk (by omega)).trans (hD 209 b (by omega) (by omega) (by omega))) (fun i => (up_nk (by omega)).trans (hD (921 + b) i (by omega) (by omega) (by omega))) ((up_nk (by omega)).trans (by omega)) (by omega) hF
  have h0 := FK_0 (r2 := up2 r 206 b 6) hI hb hg hb7 (fun i j e1 e2 e3 e4 => (if_neg (by omega)).trans (hD i j (by omega) e3 e4)) up_self hB rfl
  have hpc := pot_cur (g := G b) (h2 := bh (G b) (bn (G b))) (w2 := w2) (h := 1)
  have h02 := h0.2
  have h01 := h0.1
  obtain ⟨M, hM⟩ : ∃ M, mu (up2 r 206 b 6) (gup G b (bn (G b), bb (G b), gup (bh (G b)) (bn (G b)) (bh (G b) (bn (G b))), gup (bw (G b)) (bn (G b)) w2, bx (G b))) = M := ⟨_, rfl⟩
  rw [hM] at h02
  refine ⟨M, ⟨_, own, h01, hM, ?_, fun i _ hi => ?_⟩, ?_⟩
  · rw [gup_self]
  · obtain ⟨c1, c2, c3, c4, c5, c6, c7, c8⟩ := hc i hi
    exact ⟨o3 b hlb (by omega) _ (hz _ c6), fun m q => o3 b hlb (by omega) m (hz m (c8 m q))⟩
  · omega
theorem ST_fork {w2 M : Nat} {x0 : fR} (hR : RF s.1) (hst : s.1 170 52 = 2) (hn : 1 ≤ n) (hX : RX s.1 s2.1) (hH : HD s2.1) (hc : s2.2 = s.2) (h52 : s2.1 170 52 = s.1 170 52) (h53 : s2.1 170 53 = s.1 170 53) (h54 : s2.1 170 54 = s.1 170 54) (h55 : s.1 170 55 ≤ s2.1 170 55) (hL : FL F b n n y x0 M u r) (hM : M + bw (G b) (bn (G b)) = mu s.1 G + w2) (hw : w2 + sm u n < bw (G b) (bn (G b))) (hf : ∀ i j, ¬ (i = 211 ∧ j = b) → s2.1 i j = up2 r 206 b 6 i j) (h11 : s2.1 211 b = (n : Int)) : ON F G b s s2 (some none) := by
  obtain ⟨G2, own2, h1, h2, h3, h4⟩ := hL
  obtain ⟨q1, q2⟩ := FK_RI h1 hn hf h11
  exact ⟨rfl, hc, RX_RF hX hR, hX, hH, .inr ⟨by omega, h54, G2, own2, q1, h55, .inr ⟨h53, .inl (by omega)⟩⟩⟩
end FORK2
