/-! The reference's code, by what it does: a place p, the height h of the operands of its frame, a weight w that falls from step to step till the next PART, and the frame. -/
/-- a frame: what it is (0 the whole, 1 a branch, 2 a proc, 3 a fun), its rank, its room, its own number, the numbers of the branches that it can come to -/
abbrev fR : Type := Nat × Nat × Nat × Nat × (Nat → Prop)
abbrev fk (x : fR) : Nat := x.1
abbrev frk (x : fR) : Nat := x.2.1
abbrev frm (x : fR) : Nat := x.2.2.1
abbrev fow (x : fR) : Nat := x.2.2.2.1
abbrev fz (x : fR) : Nat → Prop := x.2.2.2.2
abbrev Ph : Type := Nat → Nat → Nat → fR → Prop
def sm (u : Nat → Nat) : Nat → Nat
  | 0 => 0
  | n + 1 => sm u n + u n
/-- what an instruction asks for, by its number -/
def ik (na : Nat) (f : Nat → Int) (K : Ph) (p h w : Nat) (x : fR) : Nat → Prop
  | 0 => p + 1 ≤ 24000 ∧ ∃ w2, K (p + 1) h w2 x
  | 1 => p + 1 ≤ 24000 ∧ ∃ w2, w2 < w ∧ K (p + 1) h w2 x
  | 2 => p + 2 ≤ 24000 ∧ h + 1 ≤ frm x ∧ ∃ w2, w2 < w ∧ K (p + 2) (h + 1) w2 x
  | 3 => p + 2 ≤ 24000 ∧ h + 1 ≤ frm x ∧ (∃ a : Nat, f (p + 1) = (a : Int) ∧ a < 24) ∧ ∃ w2, w2 < w ∧ K (p + 2) (h + 1) w2 x
  | 4 => p + 2 ≤ 24000 ∧ 1 ≤ h ∧ (∃ a : Nat, f (p + 1) = (a : Int) ∧ a < na) ∧ ∃ w2, w2 < w ∧ K (p + 2) h w2 x
  | 5 => p + 2 ≤ 24000 ∧ (∃ a : Nat, f (p + 1) = (a : Int) ∧ a < 24) ∧ ∃ g w2, h = g + 1 ∧ w2 < w ∧ K (p + 2) g w2 x
  | 6 => p + 2 ≤ 24000 ∧ (∃ a : Nat, f (p + 1) = (a : Int) ∧ a < na) ∧ ∃ g w2, h = g + 2 ∧ w2 < w ∧ K (p + 2) g w2 x
  | 7 => p + 2 ≤ 24000 ∧ ∃ g w2, h = g + 2 ∧ w2 < w ∧ K (p + 2) (g + 1) w2 x
  | 8 => p + 2 ≤ 24000 ∧ 1 ≤ h ∧ ∃ w2, w2 < w ∧ K (p + 2) h w2 x
  | 9 => p + 2 ≤ 24000 ∧ ∃ t w2, f (p + 1) = ((t : Nat) : Int) ∧ w2 < w ∧ K t h w2 x
  | 10 => p + 2 ≤ 24000 ∧ ∃ t g w2 w3, f (p + 1) = ((t : Nat) : Int) ∧ h = g + 1 ∧ w2 < w ∧ w3 < w ∧ K (p + 2) g w2 x ∧ K t g w3 x
  | 11 => p + 2 ≤ 24000 ∧ ∃ (t w2 w3 : Nat) (y : fR), f (p + 1) = (t : Int) ∧ w2 + w3 < w ∧ 2 ≤ fk y ∧ fk y ≤ 3 ∧ frk y < frk x ∧ h + frm y ≤ frm x ∧ (∀ n, fz y n → fz x n) ∧ K t 0 w2 y ∧ K (p + 2) (h + (fk y - 2)) w3 x
  | 12 => p + 1 ≤ 24000 ∧ 0 < w ∧ 2 ≤ fk x ∧ h + 2 = fk x
  | 13 => p + 2 ≤ 24000 ∧ ∃ g w2, h = g + 1 ∧ w2 + 1 < w ∧ K (p + 2) g w2 x
  | 14 => p + 2 ≤ 24000 ∧ h + 1 ≤ frm x ∧ ∃ w2, w2 + 1 < w ∧ K (p + 2) (h + 1) w2 x
  | 15 => p + 2 ≤ 24000 ∧ (∃ a : Nat, f (p + 1) = (a : Int) ∧ a < 4) ∧ ∃ g w2, h = g + 1 ∧ w2 < w ∧ K (p + 2) g w2 x
  | 16 => p + 2 ≤ 24000 ∧ h + 1 ≤ frm x ∧ (∃ a : Nat, f (p + 1) = (a : Int) ∧ a < 4) ∧ ∃ w2, w2 < w ∧ K (p + 2) (h + 1) w2 x
  | 17 => p + 3 ≤ 24000 ∧ (∃ a : Nat, f (p + 1) = (a : Int) ∧ a < 2000) ∧ ∃ w2, w2 < w ∧ K (p + 3) h w2 x
  | 18 => p + 3 ≤ 24000 ∧ (∃ a : Nat, f (p + 1) = (a : Int) ∧ a < 2000) ∧ ∃ t w2 w3, f (p + 2) = ((t : Nat) : Int) ∧ w2 < w ∧ w3 < w ∧ K (p + 3) h w2 x ∧ K t h w3 x
  | 19 => p + 8 ≤ 24000 ∧ ∃ (n w2 : Nat) (t u : Nat → Nat) (y : Nat → fR), f (p + 1) = (n : Int) ∧ 1 ≤ n ∧ n ≤ 6 ∧ w2 + sm u n < w ∧ K (p + 8) h w2 x ∧ (∀ i, i < n → f (p + 2 + i) = (t i : Int) ∧ K (t i) 0 (u i) (y i) ∧ fk (y i) = 1 ∧ frk (y i) ≤ 12 ∧ frm (y i) ≤ 1000 ∧ fz x (fow (y i)) ∧ ¬ fz (y i) (fow (y i)) ∧ ∀ n, fz (y i) n → fz x n) ∧ ∀ i j, i < n → j < n → i ≠ j → fow (y i) ≠ fow (y j) ∧ ¬ fz (y j) (fow (y i)) ∧ ∀ n, fz (y i) n → ¬ fz (y j) n
  | 20 => p + 1 ≤ 24000 ∧ 0 < w ∧ fk x = 1
  | 21 => p + 1 ≤ 24000 ∧ fk x = 0
  | _ => False
def inst (na : Nat) (f : Nat → Int) (K : Ph) (p h w : Nat) (x : fR) : Prop := ∃ k : Nat, f p = (k : Int) ∧ ik na f K p h w x k
theorem ik_mono {na nb : Nat} {f : Nat → Int} {K K2 : Ph} {p h w : Nat} {x : fR} (hn : na ≤ nb) (hK : ∀ p h w x, K p h w x → K2 p h w x) : ∀ k, ik na f K p h w x k → ik nb f K2 p h w x k
  | 0, ⟨a, w2, b⟩ => ⟨a, w2, hK _ _ _ _ b⟩
  | 1, ⟨a, w2, c, b⟩ => ⟨a, w2, c, hK _ _ _ _ b⟩
  | 2, ⟨a, e, w2, c, b⟩ => ⟨a, e, w2, c, hK _ _ _ _ b⟩
  | 3, ⟨a, e, g, w2, c, b⟩ => ⟨a, e, g, w2, c, hK _ _ _ _ b⟩
  | 4, ⟨a, e, ⟨q, g1, g2⟩, w2, c, b⟩ => ⟨a, e, ⟨q, g1, by omega⟩, w2, c, hK _ _ _ _ b⟩
  | 5, ⟨a, e, g, w2, c1, c, b⟩ => ⟨a, e, g, w2, c1, c, hK _ _ _ _ b⟩
  | 6, ⟨a, ⟨q, g1, g2⟩, g, w2, c1, c, b⟩ => ⟨a, ⟨q, g1, by omega⟩, g, w2, c1, c, hK _ _ _ _ b⟩
  | 7, ⟨a, g, w2, c1, c, b⟩ => ⟨a, g, w2, c1, c, hK _ _ _ _ b⟩
  | 8, ⟨a, e, w2, c, b⟩ => ⟨a, e, w2, c, hK _ _ _ _ b⟩
  | 9, ⟨a, t, w2, c1, c, b⟩ => ⟨a, t, w2, c1, c, hK _ _ _ _ b⟩
  | 10, ⟨a, t, g, w2, w3, c1, c2, c3, c4, b, b2⟩ => ⟨a, t, g, w2, w3, c1, c2, c3, c4, hK _ _ _ _ b, hK _ _ _ _ b2⟩
  | 11, ⟨a, t, w2, w3, y, c1, c2, c3, c4, c5, c6, c7, b, b2⟩ => ⟨a, t, w2, w3, y, c1, c2, c3, c4, c5, c6, c7, hK _ _ _ _ b, hK _ _ _ _ b2⟩
  | 12, h => h
  | 13, ⟨a, g, w2, c1, c, b⟩ => ⟨a, g, w2, c1, c, hK _ _ _ _ b⟩
  | 14, ⟨a, e, w2, c, b⟩ => ⟨a, e, w2, c, hK _ _ _ _ b⟩
  | 15, ⟨a, e, g, w2, c1, c, b⟩ => ⟨a, e, g, w2, c1, c, hK _ _ _ _ b⟩
  | 16, ⟨a, e, g, w2, c, b⟩ => ⟨a, e, g, w2, c, hK _ _ _ _ b⟩
  | 17, ⟨a, e, w2, c, b⟩ => ⟨a, e, w2, c, hK _ _ _ _ b⟩
  | 18, ⟨a, e, t, w2, w3, c1, c2, c3, b, b2⟩ => ⟨a, e, t, w2, w3, c1, c2, c3, hK _ _ _ _ b, hK _ _ _ _ b2⟩
  | 19, ⟨a, n, w2, t, u, y, c1, c2, c3, c4, b, b2, b3⟩ => ⟨a, n, w2, t, u, y, c1, c2, c3, c4, hK _ _ _ _ b, fun i hi => ⟨(b2 i hi).1, hK _ _ _ _ (b2 i hi).2.1, (b2 i hi).2.2⟩, b3⟩
  | 20, h => h
  | 21, h => h
  | k + 22, h => h.elim
theorem inst_mono {na nb : Nat} {f : Nat → Int} {K K2 : Ph} {p h w : Nat} {x : fR} (hn : na ≤ nb) (hK : ∀ p h w x, K p h w x → K2 p h w x) (hi : inst na f K p h w x) : inst nb f K2 p h w x := by
  obtain ⟨k, h1, h2⟩ := hi
  exact ⟨k, h1, ik_mono hn hK k h2⟩
/-- closed but for the ways out -/
def clo (na : Nat) (f : Nat → Int) (F X : Ph) : Prop := ∀ p h w x, F p h w x → inst na f (fun p h w x => F p h w x ∨ X p h w x) p h w x
/-- the ways out of a piece: the procs and funs, and its end -/
def wx (G : Ph) (b h w : Nat) (x : fR) : Ph := fun p2 h2 w2 x2 => G p2 h2 w2 x2 ∨ p2 = b ∧ h2 = h ∧ w2 = w ∧ x2 = x
def fits2 (T nr : Nat) (Z : Nat → Prop) (x : fR) : Prop := T ≤ 2 * frm x ∧ nr ≤ frk x ∧ ∀ n, Z n → fz x n
/-- the code from a to b takes a frame from h0 to h1; its first weight is the same for all ends -/
def SG (na : Nat) (f : Nat → Int) (G : Ph) (a b h0 h1 T nr : Nat) (Z : Nat → Prop) : Prop := ∃ w0, ∀ f2 : Nat → Int, (∀ p, a ≤ p → p < b → f2 p = f p) → ∀ (x : fR) (w : Nat), fits2 T nr Z x → ∃ F : Ph, F a h0 w0 x ∧ clo na f2 F (wx G b h1 w x)
/-- the same, with a first weight for each end -/
def SH (na : Nat) (f : Nat → Int) (G : Ph) (a b h0 h1 T nr : Nat) (Z : Nat → Prop) : Prop := ∀ f2 : Nat → Int, (∀ p, a ≤ p → p < b → f2 p = f p) → ∀ (x : fR) (w : Nat), fits2 T nr Z x → ∃ (w0 : Nat) (F : Ph), (F a h0 w0 x ∨ a = b ∧ h0 = h1 ∧ w0 = w) ∧ clo na f2 F (wx G b h1 w x)
section CODE
variable {na nb a b c e h0 h1 h2 T T2 nr k i : Nat} {f g : Nat → Int} {G : Ph} {Z Z2 : Nat → Prop}
theorem fits2_mono {x : fR} (hT : T ≤ T2) (hZ : ∀ n, Z n → Z2 n) (h : fits2 T2 nr Z2 x) : fits2 T nr Z x := ⟨by have := h.1; omega, h.2.1, fun n hn => h.2.2 n (hZ n hn)⟩
theorem SG_mono (hT : T ≤ T2) (hZ : ∀ n, Z n → Z2 n) (h : SG na f G a b h0 h1 T nr Z) : SG na f G a b h0 h1 T2 nr Z2 := by
  obtain ⟨w0, h⟩ := h
  exact ⟨w0, fun f2 hf x w hx => h f2 hf x w (fits2_mono hT hZ hx)⟩
theorem SH_mono (hT : T ≤ T2) (hZ : ∀ n, Z n → Z2 n) (h : SH na f G a b h0 h1 T nr Z) : SH na f G a b h0 h1 T2 nr Z2 := fun f2 hf x w hx => h f2 hf x w (fits2_mono hT hZ hx)
theorem SG_agr (hg : ∀ p, a ≤ p → p < b → g p = f p) (h : SG na f G a b h0 h1 T nr Z) : SG na g G a b h0 h1 T nr Z := by
  obtain ⟨w0, h⟩ := h
  exact ⟨w0, fun f2 hf x w hx => h f2 (fun p h1 h2 => (hf p h1 h2).trans (hg p h1 h2)) x w hx⟩
theorem SH_agr (hg : ∀ p, a ≤ p → p < b → g p = f p) (h : SH na f G a b h0 h1 T nr Z) : SH na g G a b h0 h1 T nr Z := fun f2 hf x w hx => h f2 (fun p h1 h2 => (hf p h1 h2).trans (hg p h1 h2)) x w hx
theorem SG_SH (h : SG na f G a b h0 h1 T nr Z) : SH na f G a b h0 h1 T nr Z := by
  obtain ⟨w0, h⟩ := h
  intro f2 hf x w hx
  obtain ⟨F, h3, h4⟩ := h f2 hf x w hx
  exact ⟨w0, F, .inl h3, h4⟩
theorem SH_nil : SH na f G a a h0 h0 T nr Z := fun _ _ _ w _ => ⟨w, fun _ _ _ _ => False, .inr ⟨rfl, rfl, rfl⟩, fun _ _ _ _ h => h.elim⟩
/-- two closed sets, the first of which ends where the second begins -/
theorem clo_seq {F1 F2 : Ph} {x : fR} {w1 w : Nat} (hs : F2 b h1 w1 x ∨ b = c ∧ h1 = h2 ∧ w1 = w) (c1 : clo na f F1 (wx G b h1 w1 x)) (c2 : clo na f F2 (wx G c h2 w x)) : clo na f (fun p h w x => F1 p h w x ∨ F2 p h w x) (wx G c h2 w x) := by
  intro p h v y hF
  rcases hF with hF | hF
  · refine inst_mono (Nat.le_refl _) ?_ (c1 p h v y hF)
    rintro p h v y (q | q | ⟨q1, q2, q3, q4⟩)
    · exact .inl (.inl q)
    · exact .inr (.inl q)
    · subst q1 q2 q3 q4
      rcases hs with hs | ⟨e1, e2, e3⟩
      · exact .inl (.inr hs)
      · exact .inr (.inr ⟨e1, e2, e3, rfl⟩)
  · refine inst_mono (Nat.le_refl _) ?_ (c2 p h v y hF)
    rintro p h v y (q | q)
    · exact .inl (.inr q)
    · exact .inr q
theorem SG_seq (hab : a ≤ b) (hbc : b ≤ c) (h : SG na f G a b h0 h1 T nr Z) (k : SH na f G b c h1 h2 T nr Z) : SG na f G a c h0 h2 T nr Z := by
  obtain ⟨w0, h⟩ := h
  refine ⟨w0, fun f2 hf x w hx => ?_⟩
  obtain ⟨w1, F2, hs, c2⟩ := k f2 (fun p h1 h2 => hf p (by omega) h2) x w hx
  obtain ⟨F1, s1, c1⟩ := h f2 (fun p h1 h2 => hf p h1 (by omega)) x w1 hx
  exact ⟨_, .inl s1, clo_seq hs c1 c2⟩
theorem SH_seq (hab : a ≤ b) (hbc : b ≤ c) (h : SH na f G a b h0 h1 T nr Z) (k : SH na f G b c h1 h2 T nr Z) : SH na f G a c h0 h2 T nr Z := by
  intro f2 hf x w hx
  obtain ⟨w1, F2, hs, c2⟩ := k f2 (fun p h1 h2 => hf p (by omega) h2) x w hx
  obtain ⟨w0, F1, s1, c1⟩ := h f2 (fun p h1 h2 => hf p h1 (by omega)) x w1 hx
  refine ⟨w0, _, ?_, clo_seq hs c1 c2⟩
  rcases s1 with s1 | ⟨e1, e2, e3⟩
  · exact .inl (.inl s1)
  · subst e1 e2 e3
    rcases hs with hs | hs
    · exact .inl (.inr hs)
    · exact .inr hs
/-- one instruction -/
theorem SH_leaf (n : Nat) (hl : 0 < n) (hk : f a = (k : Int)) (st : ∀ f2 : Nat → Int, (∀ p, a ≤ p → p < a + n → f2 p = f p) → ∀ (K : Ph) (x : fR) (w2 : Nat), fits2 T nr Z x → (∀ p h w x, G p h w x → K p h w x) → K (a + n) h1 w2 x → ∃ w, ik na f2 K a h0 w x k) : SH na f G a (a + n) h0 h1 T nr Z := by
  intro f2 hf x w hx
  obtain ⟨w0, hw⟩ := st f2 hf (fun p2 h2 w2 x2 => wx G (a + n) h1 w x p2 h2 w2 x2) x w hx (fun _ _ _ _ q => .inl q) (.inr ⟨rfl, rfl, rfl, rfl⟩)
  refine ⟨w0, fun p h w x2 => p = a ∧ h = h0 ∧ w = w0 ∧ x2 = x, .inl ⟨rfl, rfl, rfl, rfl⟩, ?_⟩
  rintro p h v y ⟨rfl, rfl, rfl, rfl⟩
  exact ⟨k, (hf p (Nat.le_refl _) (by omega)).trans hk, ik_mono (Nat.le_refl _) (fun _ _ _ _ q => .inr q) k hw⟩
theorem SG_part (hp : f a = 0) (hb : a + 1 ≤ 24000) : SG na f G a (a + 1) h0 h0 T nr Z := by
  refine ⟨0, fun f2 hf x w hx => ⟨fun p h w x2 => p = a ∧ h = h0 ∧ w = 0 ∧ x2 = x, ⟨rfl, rfl, rfl, rfl⟩, ?_⟩⟩
  rintro p h v y ⟨rfl, rfl, rfl, rfl⟩
  exact ⟨0, (hf p (Nat.le_refl _) (by omega)).trans hp, hb, w, .inr (.inr ⟨rfl, rfl, rfl, rfl⟩)⟩
theorem SG_nothing (hp : f a = 1) (hb : a + 1 ≤ 24000) (hab : a + 1 ≤ b) (k : SG na f G (a + 1) b h0 h1 T nr Z) : SG na f G a b h0 h1 T nr Z := by
  obtain ⟨w0, k⟩ := k
  refine ⟨w0 + 1, fun f2 hf x w hx => ?_⟩
  obtain ⟨F, s, c⟩ := k f2 (fun p h1 h2 => hf p (by omega) h2) x w hx
  refine ⟨fun p h v y => F p h v y ∨ p = a ∧ h = h0 ∧ v = w0 + 1 ∧ y = x, .inr ⟨rfl, rfl, rfl, rfl⟩, ?_⟩
  intro p h v y hF
  rcases hF with hF | ⟨rfl, rfl, rfl, rfl⟩
  · refine inst_mono (Nat.le_refl _) ?_ (c p h v y hF)
    rintro p h v y (q | q)
    · exact .inl (.inl q)
    · exact .inr q
  · exact ⟨1, (hf p (Nat.le_refl _) (by omega)).trans hp, hb, w0, by omega, .inl (.inl s)⟩
theorem SH_const (hp : f a = 2) (hb : a + 2 ≤ 24000) (hT : 2 * (h0 + 1) ≤ T) : SH na f G a (a + 2) h0 (h0 + 1) T nr Z := SH_leaf (k := 2) 2 (by omega) hp fun f2 hf K x w hx _ hk => ⟨w + 1, hb, by have := hx.1; show h0 + 1 ≤ frm x; omega, w, by omega, hk⟩
theorem SH_load {v : Nat} (hp : f a = 3) (hv : f (a + 1) = (v : Int)) (hv2 : v < 24) (hb : a + 2 ≤ 24000) (hT : 2 * (h0 + 1) ≤ T) : SH na f G a (a + 2) h0 (h0 + 1) T nr Z := SH_leaf (k := 3) 2 (by omega) hp fun f2 hf K x w hx _ hk => ⟨w + 1, hb, by have := hx.1; show h0 + 1 ≤ frm x; omega, ⟨v, (hf _ (by omega) (by omega)).trans hv, hv2⟩, w, by omega, hk⟩
theorem SH_item {v : Nat} (hp : f a = 4) (hv : f (a + 1) = (v : Int)) (hv2 : v < na) (hb : a + 2 ≤ 24000) : SH na f G a (a + 2) (h0 + 1) (h0 + 1) T nr Z := SH_leaf (k := 4) 2 (by omega) hp fun f2 hf K x w hx _ hk => ⟨w + 1, hb, by omega, ⟨v, (hf _ (by omega) (by omega)).trans hv, hv2⟩, w, by omega, hk⟩
theorem SH_store {v : Nat} (hp : f a = 5) (hv : f (a + 1) = (v : Int)) (hv2 : v < 24) (hb : a + 2 ≤ 24000) : SH na f G a (a + 2) (h0 + 1) h0 T nr Z := SH_leaf (k := 5) 2 (by omega) hp fun f2 hf K x w hx _ hk => ⟨w + 1, hb, ⟨v, (hf _ (by omega) (by omega)).trans hv, hv2⟩, h0, w, rfl, by omega, hk⟩
theorem SH_storei {v : Nat} (hp : f a = 6) (hv : f (a + 1) = (v : Int)) (hv2 : v < na) (hb : a + 2 ≤ 24000) : SH na f G a (a + 2) (h0 + 2) h0 T nr Z := SH_leaf (k := 6) 2 (by omega) hp fun f2 hf K x w hx _ hk => ⟨w + 1, hb, ⟨v, (hf _ (by omega) (by omega)).trans hv, hv2⟩, h0, w, rfl, by omega, hk⟩
theorem SH_sign (hp : f a = 7) (hb : a + 2 ≤ 24000) : SH na f G a (a + 2) (h0 + 2) (h0 + 1) T nr Z := SH_leaf (k := 7) 2 (by omega) hp fun f2 hf K x w hx _ hk => ⟨w + 1, hb, h0, w, rfl, by omega, hk⟩
theorem SH_turn (hp : f a = 8) (hb : a + 2 ≤ 24000) : SH na f G a (a + 2) (h0 + 1) (h0 + 1) T nr Z := SH_leaf (k := 8) 2 (by omega) hp fun f2 hf K x w hx _ hk => ⟨w + 1, hb, by omega, w, by omega, hk⟩
theorem SH_send (hp : f a = 13) (hb : a + 2 ≤ 24000) : SH na f G a (a + 2) (h0 + 1) h0 T nr Z := SH_leaf (k := 13) 2 (by omega) hp fun f2 hf K x w hx _ hk => ⟨w + 2, hb, h0, w, rfl, by omega, hk⟩
theorem SH_receive (hp : f a = 14) (hb : a + 2 ≤ 24000) (hT : 2 * (h0 + 1) ≤ T) : SH na f G a (a + 2) h0 (h0 + 1) T nr Z := SH_leaf (k := 14) 2 (by omega) hp fun f2 hf K x w hx _ hk => ⟨w + 2, hb, by have := hx.1; show h0 + 1 ≤ frm x; omega, w, by omega, hk⟩
theorem SH_output {v : Nat} (hp : f a = 15) (hv : f (a + 1) = (v : Int)) (hv2 : v < 4) (hb : a + 2 ≤ 24000) : SH na f G a (a + 2) (h0 + 1) h0 T nr Z := SH_leaf (k := 15) 2 (by omega) hp fun f2 hf K x w hx _ hk => ⟨w + 1, hb, ⟨v, (hf _ (by omega) (by omega)).trans hv, hv2⟩, h0, w, rfl, by omega, hk⟩
theorem SH_input {v : Nat} (hp : f a = 16) (hv : f (a + 1) = (v : Int)) (hv2 : v < 4) (hb : a + 2 ≤ 24000) (hT : 2 * (h0 + 1) ≤ T) : SH na f G a (a + 2) h0 (h0 + 1) T nr Z := SH_leaf (k := 16) 2 (by omega) hp fun f2 hf K x w hx _ hk => ⟨w + 1, hb, by have := hx.1; show h0 + 1 ≤ frm x; omega, ⟨v, (hf _ (by omega) (by omega)).trans hv, hv2⟩, w, by omega, hk⟩
theorem SH_count {v : Nat} (hp : f a = 17) (hv : f (a + 1) = (v : Int)) (hv2 : v < 2000) (hb : a + 3 ≤ 24000) : SH na f G a (a + 3) h0 h0 T nr Z := SH_leaf (k := 17) 3 (by omega) hp fun f2 hf K x w hx _ hk => ⟨w + 1, hb, ⟨v, (hf _ (by omega) (by omega)).trans hv, hv2⟩, w, by omega, hk⟩
/-- a call of a proc or fun that is known -/
theorem SH_call {t wt : Nat} {y : fR} (hp : f a = 11) (hv : f (a + 1) = (t : Int)) (hG : G t 0 wt y) (hk1 : 2 ≤ fk y ∧ fk y ≤ 3) (hr : frk y < nr) (hT : 2 * h0 + 2 * frm y ≤ T) (hZ : ∀ n, fz y n → Z n) (hb : a + 2 ≤ 24000) : SH na f G a (a + 2) h0 (h0 + (fk y - 2)) T nr Z := SH_leaf (k := 11) 2 (by omega) hp fun f2 hf K x w hx hGK hk => ⟨wt + w + 1, hb, t, wt, w, y, (hf _ (by omega) (by omega)).trans hv, by omega, hk1.1, hk1.2, by have := hx.2.1; show frk y < frk x; omega, by have := hx.1; show h0 + frm y ≤ frm x; omega, fun n hn => hx.2.2 n (hZ n hn), hGK _ _ _ _ hG, hk⟩
theorem clo_add {F X : Ph} {p0 g0 v0 : Nat} {x0 : fR} (c : clo na f F (fun p h w x => X p h w x ∨ p = p0 ∧ h = g0 ∧ w = v0 ∧ x = x0)) (hi : inst na f (fun p h w x => (F p h w x ∨ p = p0 ∧ h = g0 ∧ w = v0 ∧ x = x0) ∨ X p h w x) p0 g0 v0 x0) : clo na f (fun p h w x => F p h w x ∨ p = p0 ∧ h = g0 ∧ w = v0 ∧ x = x0) X := by
  intro p h v y hF
  rcases hF with hF | ⟨rfl, rfl, rfl, rfl⟩
  · refine inst_mono (Nat.le_refl _) ?_ (c p h v y hF)
    rintro p h v y (q | q | q)
    · exact .inl (.inl q)
    · exact .inr q
    · exact .inl (.inr q)
  · exact hi
theorem clo_wk {F X X2 : Ph} (hX : ∀ p h w x, X p h w x → X2 p h w x) (c : clo na f F X) : clo na f F X2 := fun p h v y hF => inst_mono (Nat.le_refl _) (fun _ _ _ _ q => q.elim .inl fun q => .inr (hX _ _ _ _ q)) (c p h v y hF)
theorem clo_un {F1 F2 X : Ph} (c1 : clo na f F1 (fun p h w x => F2 p h w x ∨ X p h w x)) (c2 : clo na f F2 (fun p h w x => F1 p h w x ∨ X p h w x)) : clo na f (fun p h w x => F1 p h w x ∨ F2 p h w x) X := by
  intro p h v y hF
  rcases hF with hF | hF
  · refine inst_mono (Nat.le_refl _) ?_ (c1 p h v y hF)
    rintro p h v y (q | q | q)
    · exact .inl (.inl q)
    · exact .inl (.inr q)
    · exact .inr q
  · refine inst_mono (Nat.le_refl _) ?_ (c2 p h v y hF)
    rintro p h v y (q | q | q)
    · exact .inl (.inr q)
    · exact .inl (.inl q)
    · exact .inr q
/-- if without else: from UNLESS on -/
theorem SH_unless (hp : f b = 10) (ht : f (b + 1) = (c : Int)) (hb : b + 2 ≤ 24000) (hbc : b + 2 ≤ c) (k : SH na f G (b + 2) c h0 h0 T nr Z) : SH na f G b c (h0 + 1) h0 T nr Z := by
  intro f2 hf x w hx
  obtain ⟨w1, F, hs, cF⟩ := k f2 (fun p h1 h2 => hf p (by omega) h2) x w hx
  refine ⟨max w1 w + 1, _, .inl (.inr ⟨rfl, rfl, rfl, rfl⟩), clo_add (clo_wk (fun _ _ _ _ q => .inl q) cF) ?_⟩
  refine ⟨10, (hf b (Nat.le_refl _) (by omega)).trans hp, hb, c, h0, w1, w, (hf (b + 1) (by omega) (by omega)).trans ht, rfl, by omega, by omega, ?_, .inr (.inr ⟨rfl, rfl, rfl, rfl⟩)⟩
  rcases hs with hs | ⟨e1, e2, e3⟩
  · exact .inl (.inl hs)
  · exact .inr (.inr ⟨e1, rfl, e3, rfl⟩)
/-- a jump to the end of a piece -/
theorem SH_jump (hp : f a = 9) (ht : f (a + 1) = (c : Int)) (hb : a + 2 ≤ 24000) (hf2 : ∀ p, a ≤ p → p < a + 2 → g p = f p) {x : fR} {w : Nat} : inst na g (fun p h w2 x2 => p = c ∧ h = h0 ∧ w2 = w ∧ x2 = x) a h0 (w + 1) x := ⟨9, (hf2 a (Nat.le_refl _) (by omega)).trans hp, hb, c, w, (hf2 (a + 1) (by omega) (by omega)).trans ht, by omega, rfl, rfl, rfl, rfl⟩
/-- if with else: from UNLESS on -/
theorem SH_unless2 (hp : f b = 10) (ht : f (b + 1) = ((c + 2 : Nat) : Int)) (hj : f c = 9) (he : f (c + 1) = (e : Int)) (hb : c + 2 ≤ 24000) (hbc : b + 2 ≤ c) (hce : c + 2 ≤ e) (k : SH na f G (b + 2) c h0 h0 T nr Z) (k2 : SH na f G (c + 2) e h0 h0 T nr Z) : SH na f G b e (h0 + 1) h0 T nr Z := by
  intro f2 hf x w hx
  obtain ⟨w2, F2, hs2, c2⟩ := k2 f2 (fun p h1 h2 => hf p (by omega) h2) x w hx
  obtain ⟨w1, F1, hs1, c1⟩ := k f2 (fun p h1 h2 => hf p (by omega) (by omega)) x (w + 1) hx
  have cj : clo na f2 (fun p h v y => F1 p h v y ∨ p = c ∧ h = h0 ∧ v = w + 1 ∧ y = x) (wx G e h0 w x) := clo_add (clo_wk (fun _ _ _ _ q => q.elim (fun q => .inl (.inl q)) .inr) c1) (inst_mono (Nat.le_refl _) (fun _ _ _ _ q => .inr (.inr q)) (SH_jump hj he hb (fun p h1 h2 => hf p (by omega) (by omega))))
  have cu := clo_un (clo_wk (X2 := fun p h w2 x2 => F2 p h w2 x2 ∨ wx G e h0 w x p h w2 x2) (fun _ _ _ _ q => .inr q) cj) (clo_wk (fun _ _ _ _ q => .inr q) c2)
  refine ⟨max w1 w2 + 1, _, .inl (.inr ⟨rfl, rfl, rfl, rfl⟩), clo_add (clo_wk (fun _ _ _ _ q => .inl q) cu) ?_⟩
  refine ⟨10, (hf b (Nat.le_refl _) (by omega)).trans hp, by omega, c + 2, h0, w1, w2, (hf (b + 1) (by omega) (by omega)).trans ht, rfl, by omega, by omega, ?_, ?_⟩
  · rcases hs1 with hs | ⟨e1, e2, e3⟩
    · exact .inl (.inl (.inl (.inl hs)))
    · exact .inl (.inl (.inl (.inr ⟨e1, rfl, e3, rfl⟩)))
  · rcases hs2 with hs | ⟨e1, e2, e3⟩
    · exact .inl (.inl (.inr hs))
    · exact .inr (.inr ⟨e1, rfl, e3, rfl⟩)
/-- while: from its E on -/
theorem SG_loop (hp : f b = 10) (ht : f (b + 1) = ((c + 2 : Nat) : Int)) (hj : f c = 9) (he : f (c + 1) = (a : Int)) (hb : c + 2 ≤ 24000) (hab : a ≤ b) (hbc : b + 2 ≤ c) (k : SG na f G a b h0 (h0 + 1) T nr Z) (k2 : SH na f G (b + 2) c h0 h0 T nr Z) : SG na f G a (c + 2) h0 h0 T nr Z := by
  obtain ⟨w0, k⟩ := k
  refine ⟨w0, fun f2 hf x w hx => ?_⟩
  obtain ⟨w1, F2, hs2, c2⟩ := k2 f2 (fun p h1 h2 => hf p (by omega) (by omega)) x (w0 + 1) hx
  obtain ⟨F1, s1, c1⟩ := k f2 (fun p h1 h2 => hf p (by omega) (by omega)) x (max w1 w + 1) hx
  refine ⟨fun p h v y => ((F1 p h v y ∨ F2 p h v y) ∨ p = b ∧ h = h0 + 1 ∧ v = max w1 w + 1 ∧ y = x) ∨ p = c ∧ h = h0 ∧ v = w0 + 1 ∧ y = x, .inl (.inl (.inl s1)), ?_⟩
  rintro p h v y (((hF | hF) | ⟨rfl, rfl, rfl, rfl⟩) | ⟨rfl, rfl, rfl, rfl⟩)
  · refine inst_mono (Nat.le_refl _) ?_ (c1 p h v y hF)
    rintro p h v y (q | q | q)
    · exact .inl (.inl (.inl (.inl q)))
    · exact .inr (.inl q)
    · exact .inl (.inl (.inr q))
  · refine inst_mono (Nat.le_refl _) ?_ (c2 p h v y hF)
    rintro p h v y (q | q | q)
    · exact .inl (.inl (.inl (.inr q)))
    · exact .inr (.inl q)
    · exact .inl (.inr q)
  · refine ⟨10, (hf p (by omega) (by omega)).trans hp, by omega, c + 2, h0, w1, w, (hf (p + 1) (by omega) (by omega)).trans ht, rfl, by omega, by omega, ?_, .inr (.inr ⟨rfl, rfl, rfl, rfl⟩)⟩
    rcases hs2 with hs | ⟨e1, e2, e3⟩
    · exact .inl (.inl (.inl (.inr hs)))
    · exact .inl (.inr ⟨e1, rfl, e3, rfl⟩)
  · exact ⟨9, (hf p (by omega) (by omega)).trans hj, hb, a, w0, (hf (p + 1) (by omega) (by omega)).trans he, by omega, .inl (.inl (.inl (.inl s1)))⟩
/-- repeat: from AGAIN on -/
theorem SH_repeat {v : Nat} (hp : f a = 18) (hv : f (a + 1) = (v : Int)) (hv2 : v < 2000) (ht : f (a + 2) = ((c + 2 : Nat) : Int)) (hj : f c = 9) (he : f (c + 1) = (a : Int)) (hb : c + 2 ≤ 24000) (hac : a + 3 ≤ c) (k : SG na f G (a + 3) c h0 h0 T nr Z) : SH na f G a (c + 2) h0 h0 T nr Z := by
  obtain ⟨w0, k⟩ := k
  intro f2 hf x w hx
  obtain ⟨F1, s1, c1⟩ := k f2 (fun p h1 h2 => hf p (by omega) (by omega)) x (max w0 w + 2) hx
  refine ⟨max w0 w + 1, fun p h v y => (F1 p h v y ∨ p = a ∧ h = h0 ∧ v = max w0 w + 1 ∧ y = x) ∨ p = c ∧ h = h0 ∧ v = max w0 w + 2 ∧ y = x, .inl (.inl (.inr ⟨rfl, rfl, rfl, rfl⟩)), ?_⟩
  rintro p h u y ((hF | ⟨rfl, rfl, rfl, rfl⟩) | ⟨rfl, rfl, rfl, rfl⟩)
  · refine inst_mono (Nat.le_refl _) ?_ (c1 p h u y hF)
    rintro p h u y (q | q | q)
    · exact .inl (.inl (.inl q))
    · exact .inr (.inl q)
    · exact .inl (.inr q)
  · exact ⟨18, (hf p (by omega) (by omega)).trans hp, by omega, ⟨v, (hf (p + 1) (by omega) (by omega)).trans hv, hv2⟩, c + 2, w0, w, (hf (p + 2) (by omega) (by omega)).trans ht, by omega, by omega, .inl (.inl (.inl s1)), .inr (.inr ⟨rfl, rfl, rfl, rfl⟩)⟩
  · exact ⟨9, (hf p (by omega) (by omega)).trans hj, hb, a, max w0 w + 1, (hf (p + 1) (by omega) (by omega)).trans he, by omega, .inl (.inl (.inr ⟨rfl, rfl, rfl, rfl⟩))⟩
end CODE
