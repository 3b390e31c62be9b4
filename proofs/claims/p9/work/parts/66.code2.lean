/-! Pars, procs and funs, the whole. -/
section CODE2
variable {na nb a b c e m h0 h1 h2 T T2 nr k : Nat} {f g : Nat → Int} {G : Ph} {Z Z2 : Nat → Prop}
/-- a par: from FORK on -/
theorem SH_par {n : Nat} {st en ow : Nat → Nat} {zi : Nat → Nat → Prop} (hp : f a = 19) (hn : f (a + 1) = (n : Int)) (hn1 : 1 ≤ n) (hn6 : n ≤ 6) (hl : ∀ i, i < n → f (a + 2 + i) = (st i : Int)) (hj : f (a + 8) = 9) (he : f (a + 9) = (e : Int)) (hb : e ≤ 24000) (hae : a + 10 ≤ e) (hr : nr ≤ 12)
    (hB : ∀ i, i < n → a + 10 ≤ st i ∧ st i ≤ en i ∧ en i + 1 ≤ e ∧ f (en i) = 20 ∧ SG na f G (st i) (en i) 0 0 2000 nr (zi i))
    (hz : ∀ i, i < n → Z (ow i) ∧ ¬ zi i (ow i) ∧ ∀ x, zi i x → Z x) (hd : ∀ i j, i < n → j < n → i ≠ j → ow i ≠ ow j ∧ ¬ zi j (ow i) ∧ ∀ x, zi i x → ¬ zi j x) : SH na f G a e h0 h0 T nr Z := by
  obtain ⟨ws, hws⟩ := Classical.axiomOfChoice (r := fun i w0 => i < n → ∀ f2 : Nat → Int, (∀ p, st i ≤ p → p < en i → f2 p = f p) → ∀ (x : fR) (w : Nat), fits2 2000 nr (zi i) x → ∃ F : Ph, F (st i) 0 w0 x ∧ clo na f2 F (wx G (en i) 0 w x)) (fun i => by
    by_cases hi : i < n
    · obtain ⟨w0, h⟩ := (hB i hi).2.2.2.2
      exact ⟨w0, fun _ => h⟩
    · exact ⟨0, fun h => absurd h hi⟩)
  intro f2 hf x w hx
  let y : Nat → fR := fun i => (1, 12, 1000, ow i, zi i)
  obtain ⟨Fs, hFs⟩ := Classical.axiomOfChoice (r := fun i (F : Ph) => i < n → F (st i) 0 (ws i) (y i) ∧ clo na f2 F (wx G (en i) 0 1 (y i))) (fun i => by
    by_cases hi : i < n
    · have h5 := hB i hi
      obtain ⟨F, q1, q2⟩ := hws i hi f2 (fun p g1 g2 => hf p (by omega) (by omega)) (y i) 1 ⟨by show 2000 ≤ 2 * 1000; omega, hr, fun _ q => q⟩
      exact ⟨F, fun _ => ⟨q1, q2⟩⟩
    · exact ⟨fun _ _ _ _ => False, fun h => absurd h hi⟩)
  refine ⟨w + 1 + sm ws n + 1, fun p h v z => (∃ i, i < n ∧ (Fs i p h v z ∨ p = en i ∧ h = 0 ∧ v = 1 ∧ z = y i)) ∨ (p = a ∧ h = h0 ∧ v = w + 1 + sm ws n + 1 ∧ z = x) ∨ (p = a + 8 ∧ h = h0 ∧ v = w + 1 ∧ z = x), .inl (.inr (.inl ⟨rfl, rfl, rfl, rfl⟩)), ?_⟩
  rintro p h v z (⟨i, hi, hF | ⟨rfl, rfl, rfl, rfl⟩⟩ | ⟨rfl, rfl, rfl, rfl⟩ | ⟨rfl, rfl, rfl, rfl⟩)
  · refine inst_mono (Nat.le_refl _) ?_ ((hFs i hi).2 p h v z hF)
    rintro p h v z (q | q | q)
    · exact .inl (.inl ⟨i, hi, .inl q⟩)
    · exact .inr (.inl q)
    · exact .inl (.inl ⟨i, hi, .inr q⟩)
  · have h5 := hB i hi
    exact ⟨20, (hf _ (by omega) (by omega)).trans h5.2.2.2.1, by omega, by omega, rfl⟩
  · refine ⟨19, (hf p (by omega) (by omega)).trans hp, by omega, n, w + 1, st, ws, y, (hf _ (by omega) (by omega)).trans hn, hn1, hn6, by omega, .inl (.inr (.inr ⟨rfl, rfl, rfl, rfl⟩)), fun i hi => ?_, fun i j hi hj hij => hd i j hi hj hij⟩
    exact ⟨(hf _ (by omega) (by omega)).trans (hl i hi), .inl (.inl ⟨i, hi, .inl (hFs i hi).1⟩), rfl, Nat.le_refl _, Nat.le_refl _, hx.2.2 _ (hz i hi).1, (hz i hi).2.1, fun q hq => hx.2.2 _ ((hz i hi).2.2 q hq)⟩
  · exact ⟨9, (hf _ (by omega) (by omega)).trans hj, by omega, e, w, (hf _ (by omega) (by omega)).trans he, by omega, .inr (.inr ⟨rfl, rfl, rfl, rfl⟩)⟩
/-- the procs and funs that are known -/
def Gr (nr : Nat) (ent W : Nat → Nat) (D : Nat → fR) : Ph := fun p h w x => ∃ i, i < nr ∧ p = ent i ∧ h = 0 ∧ w = W i ∧ x = D i
def EV (na : Nat) (f : Nat → Int) (m nr : Nat) (ent W : Nat → Nat) (D : Nat → fR) : Prop := ∀ f2 : Nat → Int, (∀ p, p < m → f2 p = f p) → ∃ F : Ph, clo na f2 F (fun _ _ _ _ => False) ∧ ∀ i, i < nr → F (ent i) 0 (W i) (D i)
def gup {α : Type} (g : Nat → α) (i : Nat) (v : α) : Nat → α := fun j => if j = i then v else g j
theorem gup_self {α : Type} {g : Nat → α} {i : Nat} {v : α} : gup g i v i = v := if_pos rfl
theorem gup_ne {α : Type} {g : Nat → α} {i j : Nat} {v : α} (h : j ≠ i) : gup g i v j = g j := if_neg h
variable {ent W : Nat → Nat} {D : Nat → fR}
theorem EV_agr (hg : ∀ p, p < m → g p = f p) (h : EV na f m nr ent W D) : EV na g m nr ent W D := fun f2 hf => h f2 fun p hp => (hf p hp).trans (hg p hp)
theorem EV_mono (hm : m ≤ e) (hn : na ≤ nb) (h : EV na f m nr ent W D) : EV nb f e nr ent W D := fun f2 hf => by
  obtain ⟨F, h1, h2⟩ := h f2 fun p hp => hf p (by omega)
  exact ⟨F, fun p h w x hF => inst_mono hn (fun _ _ _ _ q => q) (h1 p h w x hF), h2⟩
theorem EV_zero : EV na f m 0 ent W D := fun _ _ => ⟨fun _ _ _ _ => False, fun _ _ _ _ h => h.elim, fun i hi => absurd hi (by omega)⟩
theorem EV_add {y : fR} (h : EV na f m nr ent W D) (hm : m ≤ a) (hab : a ≤ b) (bd : SG na f (Gr nr ent W D) a b 0 h1 T nr Z) (hb : f b = 12) (hb2 : b + 1 ≤ 24000) (hk : 2 ≤ fk y) (hk1 : h1 + 2 = fk y) (hy : fits2 T nr Z y) : ∃ w0, EV na f (b + 1) (nr + 1) (gup ent nr a) (gup W nr w0) (gup D nr y) := by
  obtain ⟨w0, bd⟩ := bd
  refine ⟨w0, fun f2 hf => ?_⟩
  obtain ⟨F, h3, h4⟩ := h f2 fun p hp => hf p (by omega)
  obtain ⟨F2, h5, h6⟩ := bd f2 (fun p _ hp => hf p (by omega)) y 1 hy
  refine ⟨fun p h w x => (F p h w x ∨ F2 p h w x) ∨ p = b ∧ h = h1 ∧ w = 1 ∧ x = y, ?_, fun i hi => ?_⟩
  · rintro p h w x ((hF | hF) | ⟨rfl, rfl, rfl, rfl⟩)
    · refine inst_mono (Nat.le_refl _) ?_ (h3 p h w x hF)
      rintro p h w x (q | q)
      · exact .inl (.inl (.inl q))
      · exact q.elim
    · refine inst_mono (Nat.le_refl _) ?_ (h6 p h w x hF)
      rintro p h w x (q | ⟨i, hi, rfl, rfl, rfl, rfl⟩ | q)
      · exact .inl (.inl (.inr q))
      · exact .inl (.inl (.inl (h4 i hi)))
      · exact .inl (.inr q)
    · exact ⟨12, (hf _ (by omega)).trans hb, by omega, by omega, hk, hk1⟩
  · by_cases e1 : i = nr
    · subst e1
      rw [gup_self, gup_self, gup_self]
      exact .inl (.inr h5)
    · rw [gup_ne e1, gup_ne e1, gup_ne e1]
      exact .inl (.inl (h4 i (by omega)))
/-- the whole -/
theorem EV_main {y : fR} (h : EV na f m nr ent W D) (hm : m ≤ a) (hab : a ≤ b) (bd : SG na f (Gr nr ent W D) a b 0 h1 T nr Z) (hb : f b = 21) (hb2 : b + 1 ≤ 24000) (hk : fk y = 0) (hy : fits2 T nr Z y) : ∃ (F : Ph) (w0 : Nat), (∀ p h w x, F p h w x → inst na f F p h w x) ∧ F a 0 w0 y := by
  obtain ⟨w0, bd⟩ := bd
  obtain ⟨F, h3, h4⟩ := h f fun p hp => rfl
  obtain ⟨F2, h5, h6⟩ := bd f (fun p _ hp => rfl) y 1 hy
  refine ⟨fun p h w x => (F p h w x ∨ F2 p h w x) ∨ p = b ∧ h = h1 ∧ w = 1 ∧ x = y, w0, ?_, .inl (.inr h5)⟩
  rintro p h w x ((hF | hF) | ⟨rfl, rfl, rfl, rfl⟩)
  · refine inst_mono (Nat.le_refl _) ?_ (h3 p h w x hF)
    rintro p h w x (q | q)
    · exact .inl (.inl q)
    · exact q.elim
  · refine inst_mono (Nat.le_refl _) ?_ (h6 p h w x hF)
    rintro p h w x (q | ⟨i, hi, rfl, rfl, rfl, rfl⟩ | q)
    · exact .inl (.inr q)
    · exact .inl (.inl (h4 i hi))
    · exact .inr q
  · exact ⟨21, hb, by omega, hk⟩
end CODE2
