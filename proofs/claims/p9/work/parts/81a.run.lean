/-! The circuit at work. -/
theorem pig : ∀ (M B : Nat) (f : Nat → Nat), (∀ i, i < B → f i < M) → (∀ i j, i < B → j < B → f i = f j → i = j) → B ≤ M
  | 0, B, f, h, _ => by
    by_cases e : B = 0
    · omega
    · exact absurd (h 0 (by omega)) (by omega)
  | M + 1, B, f, h, hi => by
    by_cases e : ∃ i, i < B ∧ f i = M
    · obtain ⟨i, i1, i2⟩ := e
      have := pig M (B - 1) (fun j => f (if j < i then j else j + 1)) (fun j hj => by
        have h1 := h (if j < i then j else j + 1) (by split <;> omega)
        have h2 : f (if j < i then j else j + 1) ≠ M := fun e2 => by
          have := hi _ i (by split <;> omega) i1 (e2.trans i2.symm)
          split at this <;> omega
        show f (if j < i then j else j + 1) < M
        omega) (fun a b ha hb hab => by
        have := hi _ _ (by split <;> omega) (by split <;> omega) hab
        split at this <;> split at this <;> omega)
      omega
    · have := pig M B f (fun i hb => by
        have h1 := h i hb
        have h2 : f i ≠ M := fun e2 => e ⟨i, hb, e2⟩
        omega) hi
      omega
theorem sm_ext {u v : Nat → Nat} : ∀ {n : Nat}, (∀ i, i < n → u i = v i) → sm u n = sm v n
  | 0, _ => rfl
  | n + 1, h => by
    show sm u n + u n = sm v n + v n
    rw [sm_ext (fun i hi => h i (by omega)), h n (by omega)]
theorem sm_one {u v : Nat → Nat} {i : Nat} : ∀ {n : Nat}, i < n → (∀ j, j < n → j ≠ i → u j = v j) → sm u n + v i = sm v n + u i
  | 0, h, _ => absurd h (by omega)
  | n + 1, h, hx => by
    show sm u n + u n + v i = sm v n + v n + u i
    by_cases e : i = n
    · subst e
      rw [sm_ext (fun j hj => hx j (by omega) (by omega))]
      omega
    · have := sm_one (n := n) (by omega) (fun j hj hn => hx j (by omega) hn)
      rw [hx n (by omega) (fun q => e q.symm)]
      omega
theorem sm_le {u : Nat → Nat} {i : Nat} : ∀ {n : Nat}, i < n → u i ≤ sm u n
  | 0, h => absurd h (by omega)
  | n + 1, h => by
    show u i ≤ sm u n + u n
    by_cases e : i = n
    · subst e; omega
    · have := sm_le (u := u) (n := n) (i := i) (by omega); omega
theorem sm_zero {u : Nat → Nat} : ∀ {n : Nat}, sm u n = 0 → ∀ i, i < n → u i = 0 := fun h i hi => by have := sm_le (u := u) hi; omega
/-- a branch: how many calls it is in; of each frame its bottom, its height, its weight, itself -/
abbrev gB : Type := Nat × (Nat → Nat) × (Nat → Nat) × (Nat → Nat) × (Nat → fR)
abbrev bn (g : gB) : Nat := g.1
abbrev bb (g : gB) : Nat → Nat := g.2.1
abbrev bh (g : gB) : Nat → Nat := g.2.2.1
abbrev bw (g : gB) : Nat → Nat := g.2.2.2.1
abbrev bx (g : gB) : Nat → fR := g.2.2.2.2
/-- frame i of a branch -/
def B1 (g : gB) (i : Nat) : Prop := i + frk (bx g i) ≤ 12 ∧ bb g i + frm (bx g i) ≤ 1000 ∧ ∀ n, fz (bx g i) n → fz (bx g 0) n
/-- frame i, which has called frame i + 1 -/
def B2 (F : Ph) (r : tab) (b : Nat) (g : gB) (i : Nat) : Prop := bb g (i + 1) + (fk (bx g (i + 1)) - 2) = bb g i + bh g i ∧ 2 ≤ fk (bx g (i + 1)) ∧ ∃ p : Nat, r (921 + b) i = (p : Int) ∧ F p (bh g i) (bw g i) (bx g i)
def BI (F : Ph) (r : tab) (b : Nat) (g : gB) (e : Int) : Prop := r 209 b = (bn g : Int) ∧ (∀ i, i ≤ bn g → B1 g i) ∧ (∀ i, i < bn g → B2 F r b g i) ∧ bb g 0 = 0 ∧ (∃ p : Nat, r 205 b = (p : Int) ∧ F p (bh g (bn g)) (bw g (bn g)) (bx g (bn g))) ∧ (r 208 b = (bb g (bn g) : Int) + bh g (bn g) + e ∧ (bb g (bn g) : Int) + bh g (bn g) ≤ 1000 ∧ r 208 b ≤ 1000 ∧ 0 ≤ r 208 b) ∧ (b = 0 ∧ fk (bx g 0) = 0 ∨ 1 ≤ b ∧ fk (bx g 0) = 1)
/-- what lies on the operands beside the height: 1 while it waits to send, -1 while it waits to receive -/
def eo (h : Int) : Int := if h = 2 then 1 else if h = 3 then -1 else 0
def lv1 (r : tab) (b : Nat) : Prop := (b : Int) < r 170 55 ∧ r 206 b ≠ 0
def pot (g : gB) (h : Int) : Nat := sm (bw g) (bn g + 1) + (if h = 2 ∨ h = 3 then 1 else 0)
def kids (r : tab) (b : Nat) : Nat := sm (fun c => if r 206 c ≠ 0 ∧ r 210 c = (b : Int) then 1 else 0) (r 170 55).toNat
def mu (r : tab) (G : Nat → gB) : Nat := sm (fun b => if r 206 b = 0 then 0 else pot (G b) (r 206 b)) (r 170 55).toNat
def goes (r : tab) : Nat := sm (fun b => if r 206 b = 1 then 1 else 0) (r 170 55).toNat
/-- who owns which numbers -/
def OW (r : tab) (G : Nat → gB) (own : Nat → Nat → Prop) : Prop := (∀ b c, lv1 r b → lv1 r c → b ≠ c → ∀ n, own b n → ¬ own c n) ∧ (∀ b, lv1 r b → 1 ≤ b → own b (fow (bx (G b) 0)) ∧ fow (bx (G b) 0) < 699 ∧ ¬ fz (bx (G b) 0) (fow (bx (G b) 0))) ∧ (∀ b, lv1 r b → r 206 b ≠ 6 → ∀ n, fz (bx (G b) 0) n → own b n) ∧ (∀ b, lv1 r b → r 206 b = 6 → ∀ n, fz (bx (G b) 0) n → own b n ∨ ∃ c, lv1 r c ∧ 1 ≤ c ∧ r 210 c = (b : Int) ∧ (fz (bx (G c) 0) n ∨ n = fow (bx (G c) 0))) ∧ (∀ b, lv1 r b → ∀ n, fz (bx (G b) 0) n → n < 699)
def KD (r : tab) : Prop := (∀ c, lv1 r c → 1 ≤ c → ∃ p : Nat, r 210 c = (p : Int) ∧ lv1 r p ∧ r 206 p = 6) ∧ (∀ b, lv1 r b → r 206 b = 6 → r 211 b = (kids r b : Int) ∧ 1 ≤ kids r b) ∧ r 210 0 = -1 ∧ r 206 0 ≠ 0
def RI (F : Ph) (r : tab) (G : Nat → gB) (own : Nat → Nat → Prop) : Prop := (1 ≤ r 170 55 ∧ r 170 55 ≤ 700) ∧ (∀ b, lv1 r b → BI F r b (G b) (eo (r 206 b)) ∧ (1 ≤ r 206 b ∧ r 206 b ≤ 6) ∧ ((r 206 b = 4 ∨ r 206 b = 5) → 0 ≤ r 207 b ∧ r 207 b < 4)) ∧ OW r G own ∧ KD r
section RUN
variable {F : Ph} {r r2 : tab} {G : Nat → gB} {own : Nat → Nat → Prop} {b : Nat} {g : gB}
theorem BI_at {e : Int} (h : BI F r b g e) (e5 : r2 205 b = r 205 b) (e8 : r2 208 b = r 208 b) (e9 : r2 209 b = r 209 b) (eb : ∀ i, r2 (921 + b) i = r (921 + b) i) : BI F r2 b g e := by
  obtain ⟨h1, h2, h3, h4, h5, h6, h7⟩ := h
  refine ⟨by rw [e9]; exact h1, h2, fun i hi => ?_, h4, by rw [e5]; exact h5, by rw [e8]; exact h6, h7⟩
  have := h3 i hi
  unfold B2 at this ⊢
  rw [eb]
  exact this
/-- branch b goes on, waits or is woken, and stays what it is to the others -/
theorem RI_loc {g2 : gB} {h0 h1 : Int} (h : RI F r G own) (hb : (b : Int) < r 170 55) (hg : r 206 b = h0) (hh0 : 1 ≤ h0 ∧ h0 ≤ 5) (hg2 : r2 206 b = h1) (hh1 : 1 ≤ h1 ∧ h1 ≤ 5) (h55 : r2 170 55 = r 170 55) (hf : ∀ k j, k = 210 ∨ k = 211 → r2 k j = r k j) (hf2 : ∀ j, j ≠ b → r2 205 j = r 205 j ∧ r2 206 j = r 206 j ∧ r2 207 j = r 207 j ∧ r2 208 j = r 208 j ∧ r2 209 j = r 209 j) (hf3 : ∀ j, j ≠ b → (j : Int) < r 170 55 → ∀ i, r2 (921 + j) i = r (921 + j) i) (hw : h1 = 4 ∨ h1 = 5 → 0 ≤ r2 207 b ∧ r2 207 b < 4) (hB : BI F r2 b g2 (eo h1)) (hx : bx g2 0 = bx (G b) 0) : RI F r2 (gup G b g2) own ∧ mu r2 (gup G b g2) + pot (G b) h0 = mu r G + pot g2 h1 ∧ goes r2 + (if h0 = 1 then 1 else 0) = goes r + (if h1 = 1 then 1 else 0) := by
  have hlb : lv1 r b := ⟨hb, by omega⟩
  have e6 : ∀ j, j ≠ b → r2 206 j = r 206 j := fun j hj => (hf2 j hj).2.1
  have e60 : ∀ j, r2 206 j = 0 ↔ r 206 j = 0 := fun j => by
    by_cases e : j = b
    · subst e; omega
    · rw [e6 j e]
  have e66 : ∀ j, r2 206 j = 6 ↔ r 206 j = 6 := fun j => by
    by_cases e : j = b
    · subst e; omega
    · rw [e6 j e]
  have e10 : ∀ j, r2 210 j = r 210 j := fun j => hf 210 j (.inl rfl)
  have e11 : ∀ j, r2 211 j = r 211 j := fun j => hf 211 j (.inr rfl)
  have el : ∀ c, lv1 r2 c ↔ lv1 r c := fun c => by unfold lv1; rw [h55, ne_eq, ne_eq, e60]
  have ex : ∀ c, bx (gup G b g2 c) 0 = bx (G c) 0 := fun c => by
    by_cases e : c = b
    · subst e; rw [gup_self]; exact hx
    · rw [gup_ne e]
  have ek : ∀ c, kids r2 c = kids r c := fun c => by
    unfold kids
    rw [h55]
    exact sm_ext fun i _ => by simp only [e10, ne_eq, e60]
  obtain ⟨h1a, h2, ⟨o1, o2, o3, o4, o5⟩, k1, k2, k3⟩ := h
  have hb2 : b < (r 170 55).toNat := by omega
  refine ⟨⟨by rw [h55]; exact h1a, fun c hc => ?_, ⟨fun c c2 hc hc2 => o1 c c2 ((el c).mp hc) ((el c2).mp hc2), fun c hc h1c => by rw [ex]; exact o2 c ((el c).mp hc) h1c, fun c hc h6 => by rw [ex]; rw [ne_eq, e66] at h6; exact o3 c ((el c).mp hc) h6, fun c hc h6 n hn => ?_, fun c hc => by rw [ex]; exact o5 c ((el c).mp hc)⟩, fun c hc h1c => ?_, fun c hc h6 => ?_, by rw [e10]; exact k3.1, fun e => k3.2 ((e60 0).mp e)⟩, ?_, ?_⟩
  · by_cases e : c = b
    · subst e
      rw [gup_self, hg2]
      exact ⟨hB, by omega, hw⟩
    · obtain ⟨a1, a6, a7, a2, a3⟩ := hf2 c e
      have a4 := hf3 c e ((el c).mp hc).1
      rw [gup_ne e, a6, a7]
      have := h2 c ((el c).mp hc)
      exact ⟨BI_at this.1 a1 a2 a3 a4, this.2⟩
  · rw [ex] at hn
    rw [e66] at h6
    rcases o4 c ((el c).mp hc) h6 n hn with q | ⟨c2, q1, q2, q3, q4⟩
    · exact .inl q
    · exact .inr ⟨c2, (el c2).mpr q1, q2, by rw [e10]; exact q3, by rw [ex]; exact q4⟩
  · obtain ⟨p, p1, p2, p3⟩ := k1 c ((el c).mp hc) h1c
    exact ⟨p, by rw [e10]; exact p1, (el p).mpr p2, (e66 p).mpr p3⟩
  · rw [e66] at h6
    rw [e11, ek]
    exact k2 c ((el c).mp hc) h6
  · unfold mu
    rw [h55]
    have := sm_one (u := fun c => if r2 206 c = 0 then 0 else pot (gup G b g2 c) (r2 206 c)) (v := fun c => if r 206 c = 0 then 0 else pot (G c) (r 206 c)) hb2 (fun j _ hj => by
      show (if r2 206 j = 0 then 0 else pot (gup G b g2 j) (r2 206 j)) = _
      rw [gup_ne hj, e6 j hj])
    have z1 : ¬ h1 = 0 := by omega
    have z0 : ¬ h0 = 0 := by omega
    simp only [hg, hg2, gup_self, if_neg z1, if_neg z0] at this
    exact this
  · unfold goes
    rw [h55]
    have := sm_one (u := fun c => if r2 206 c = 1 then 1 else 0) (v := fun c => if r 206 c = 1 then 1 else 0) hb2 (fun j _ hj => by
      show (if r2 206 j = 1 then 1 else 0) = _
      rw [e6 j hj])
    simp only [hg, hg2] at this
    exact this
/-- the frame at hand goes on at another place -/
theorem BI_cur {p2 h2 w2 : Nat} (h : BI F r b g 0) (h5 : r2 205 b = (p2 : Int)) (h9 : r2 209 b = r 209 b) (hbk : ∀ i, r2 (921 + b) i = r (921 + b) i) (h8 : r2 208 b = (bb g (bn g) : Int) + h2) (hh : (bb g (bn g) : Int) + h2 ≤ 1000) (hF : F p2 h2 w2 (bx g (bn g))) : BI F r2 b (bn g, bb g, gup (bh g) (bn g) h2, gup (bw g) (bn g) w2, bx g) 0 := by
  obtain ⟨a1, a2, a3, a4, a5, a6, a7⟩ := h
  refine ⟨by rw [h9]; exact a1, fun i hi => a2 i hi, fun i hi => ?_, a4, ⟨p2, h5, ?_⟩, ?_, a7⟩
  · have := a3 i hi
    unfold B2 at this ⊢
    show bb g (i + 1) + (fk (bx g (i + 1)) - 2) = bb g i + gup (bh g) (bn g) h2 i ∧ 2 ≤ fk (bx g (i + 1)) ∧ ∃ p : Nat, r2 (921 + b) i = (p : Int) ∧ F p (gup (bh g) (bn g) h2 i) (gup (bw g) (bn g) w2 i) (bx g i)
    have hi2 : i < bn g := hi
    rw [gup_ne (by omega), gup_ne (by omega), hbk]
    exact this
  · show F p2 (gup (bh g) (bn g) h2 (bn g)) (gup (bw g) (bn g) w2 (bn g)) (bx g (bn g))
    rw [gup_self, gup_self]
    exact hF
  · show r2 208 b = (bb g (bn g) : Int) + (gup (bh g) (bn g) h2 (bn g) : Nat) + 0 ∧ (bb g (bn g) : Int) + (gup (bh g) (bn g) h2 (bn g) : Nat) ≤ 1000 ∧ r2 208 b ≤ 1000 ∧ 0 ≤ r2 208 b
    rw [gup_self]
    omega
theorem pot_cur {h2 w2 : Nat} {h : Int} : pot (bn g, bb g, gup (bh g) (bn g) h2, gup (bw g) (bn g) w2, bx g) h + bw g (bn g) = pot g h + w2 := by
  unfold pot
  have := sm_one (u := gup (bw g) (bn g) w2) (v := bw g) (i := bn g) (n := bn g + 1) (by omega) (fun j _ hj => gup_ne hj)
  rw [gup_self] at this
  show sm (gup (bw g) (bn g) w2) (bn g + 1) + (if h = 2 ∨ h = 3 then 1 else 0) + bw g (bn g) = sm (bw g) (bn g + 1) + (if h = 2 ∨ h = 3 then 1 else 0) + w2
  omega
/-- a call -/
theorem BI_call {p t w2 w3 : Nat} {y : fR} (h : BI F r b g 0) (h5 : r2 205 b = (t : Int)) (h9 : r2 209 b = (bn g : Int) + 1) (hbk : ∀ i, i ≠ bn g → r2 (921 + b) i = r (921 + b) i) (hbn : r2 (921 + b) (bn g) = (p : Int)) (h8 : r2 208 b = r 208 b) (hy : 2 ≤ fk y ∧ fk y ≤ 3) (hrk : frk y < frk (bx g (bn g))) (hrm : bh g (bn g) + frm y ≤ frm (bx g (bn g))) (hz : ∀ n, fz y n → fz (bx g (bn g)) n) (hF : F t 0 w2 y) (hF2 : F p (bh g (bn g) + (fk y - 2)) w3 (bx g (bn g))) : BI F r2 b (bn g + 1, gup (bb g) (bn g + 1) (bb g (bn g) + bh g (bn g)), gup (gup (bh g) (bn g) (bh g (bn g) + (fk y - 2))) (bn g + 1) 0, gup (gup (bw g) (bn g) w3) (bn g + 1) w2, gup (bx g) (bn g + 1) y) 0 := by
  obtain ⟨a1, a2, a3, a4, a5, a6, a7⟩ := h
  have hn := a2 (bn g) (Nat.le_refl _)
  unfold B1 at hn
  have hx0 : gup (bx g) (bn g + 1) y 0 = bx g 0 := gup_ne (by omega)
  refine ⟨by rw [h9]; rfl, fun i hi => ?_, fun i hi => ?_, ?_, ⟨t, h5, ?_⟩, ?_, ?_⟩
  · have hi2 : i ≤ bn g + 1 := hi
    unfold B1
    show i + frk (gup (bx g) (bn g + 1) y i) ≤ 12 ∧ gup (bb g) (bn g + 1) (bb g (bn g) + bh g (bn g)) i + frm (gup (bx g) (bn g + 1) y i) ≤ 1000 ∧ ∀ n, fz (gup (bx g) (bn g + 1) y i) n → fz (gup (bx g) (bn g + 1) y 0) n
    rw [hx0]
    by_cases e : i = bn g + 1
    · subst e
      rw [gup_self, gup_self]
      exact ⟨by omega, by omega, fun n q => hn.2.2 n (hz n q)⟩
    · rw [gup_ne e, gup_ne e]
      exact a2 i (by omega)
  · have hi2 : i < bn g + 1 := hi
    unfold B2
    show gup (bb g) (bn g + 1) (bb g (bn g) + bh g (bn g)) (i + 1) + (fk (gup (bx g) (bn g + 1) y (i + 1)) - 2) = gup (bb g) (bn g + 1) (bb g (bn g) + bh g (bn g)) i + gup (gup (bh g) (bn g) (bh g (bn g) + (fk y - 2))) (bn g + 1) 0 i ∧ 2 ≤ fk (gup (bx g) (bn g + 1) y (i + 1)) ∧ ∃ p : Nat, r2 (921 + b) i = (p : Int) ∧ F p (gup (gup (bh g) (bn g) (bh g (bn g) + (fk y - 2))) (bn g + 1) 0 i) (gup (gup (bw g) (bn g) w3) (bn g + 1) w2 i) (gup (bx g) (bn g + 1) y i)
    by_cases e : i = bn g
    · subst e
      rw [gup_self, gup_self, gup_ne (show bn g ≠ bn g + 1 by omega), gup_ne (show bn g ≠ bn g + 1 by omega), gup_ne (show bn g ≠ bn g + 1 by omega), gup_ne (show bn g ≠ bn g + 1 by omega), gup_self, gup_self]
      exact ⟨by omega, hy.1, p, hbn, hF2⟩
    · rw [gup_ne (show i + 1 ≠ bn g + 1 by omega), gup_ne (show i + 1 ≠ bn g + 1 by omega), gup_ne (show i ≠ bn g + 1 by omega), gup_ne (show i ≠ bn g + 1 by omega), gup_ne (show i ≠ bn g + 1 by omega), gup_ne (show i ≠ bn g + 1 by omega), gup_ne e, gup_ne e, hbk i e]
      exact a3 i (by omega)
  · show gup (bb g) (bn g + 1) (bb g (bn g) + bh g (bn g)) 0 = 0
    rw [gup_ne (by omega)]; exact a4
  · show F t (gup (gup (bh g) (bn g) (bh g (bn g) + (fk y - 2))) (bn g + 1) 0 (bn g + 1)) (gup (gup (bw g) (bn g) w3) (bn g + 1) w2 (bn g + 1)) (gup (bx g) (bn g + 1) y (bn g + 1))
    rw [gup_self, gup_self, gup_self]
    exact hF
  · show r2 208 b = (gup (bb g) (bn g + 1) (bb g (bn g) + bh g (bn g)) (bn g + 1) : Nat) + (gup (gup (bh g) (bn g) (bh g (bn g) + (fk y - 2))) (bn g + 1) 0 (bn g + 1) : Nat) + 0 ∧ ((gup (bb g) (bn g + 1) (bb g (bn g) + bh g (bn g)) (bn g + 1) : Nat) : Int) + (gup (gup (bh g) (bn g) (bh g (bn g) + (fk y - 2))) (bn g + 1) 0 (bn g + 1) : Nat) ≤ 1000 ∧ r2 208 b ≤ 1000 ∧ 0 ≤ r2 208 b
    rw [gup_self, gup_self, h8]
    omega
  · show b = 0 ∧ fk (gup (bx g) (bn g + 1) y 0) = 0 ∨ 1 ≤ b ∧ fk (gup (bx g) (bn g + 1) y 0) = 1
    rw [hx0]
    exact a7
theorem pot_call {w2 w3 : Nat} {y : fR} {h : Int} {bb2 bh2 : Nat → Nat} {bx2 : Nat → fR} : pot (bn g + 1, bb2, bh2, gup (gup (bw g) (bn g) w3) (bn g + 1) w2, bx2) h + bw g (bn g) = pot g h + w2 + w3 := by
  unfold pot
  have h1 := sm_one (u := gup (bw g) (bn g) w3) (v := bw g) (i := bn g) (n := bn g + 1) (by omega) (fun j _ hj => gup_ne hj)
  rw [gup_self] at h1
  have h2 : sm (gup (gup (bw g) (bn g) w3) (bn g + 1) w2) (bn g + 1) = sm (gup (bw g) (bn g) w3) (bn g + 1) := sm_ext fun i hi => gup_ne (by omega)
  show sm (gup (gup (bw g) (bn g) w3) (bn g + 1) w2) (bn g + 1) + gup (gup (bw g) (bn g) w3) (bn g + 1) w2 (bn g + 1) + (if h = 2 ∨ h = 3 then 1 else 0) + bw g (bn g) = sm (bw g) (bn g + 1) + (if h = 2 ∨ h = 3 then 1 else 0) + w2 + w3
  rw [gup_self, h2]
  omega
/-- the end of a call -/
theorem BI_back {m : Nat} (h : BI F r b g 0) (hm : bn g = m + 1) (hh : bh g (m + 1) + 2 = fk (bx g (m + 1))) (h5 : r2 205 b = r (921 + b) m) (h9 : r2 209 b = (m : Int)) (hbk : ∀ i, r2 (921 + b) i = r (921 + b) i) (h8 : r2 208 b = r 208 b) : BI F r2 b (m, bb g, bh g, bw g, bx g) 0 := by
  obtain ⟨a1, a2, a3, a4, a5, a6, a7⟩ := h
  have c := a3 m (by omega)
  obtain ⟨c1, c2, p, c3, c4⟩ := c
  rw [hm] at a6
  refine ⟨h9, fun i hi => a2 i (by have : i ≤ m := hi; omega), fun i hi => ?_, a4, ⟨p, h5.trans c3, c4⟩, ?_, a7⟩
  · have := a3 i (by have : i < m := hi; omega)
    unfold B2 at this ⊢
    rw [hbk]
    exact this
  · show r2 208 b = (bb g m : Int) + bh g m + 0 ∧ (bb g m : Int) + bh g m ≤ 1000 ∧ r2 208 b ≤ 1000 ∧ 0 ≤ r2 208 b
    rw [h8]
    omega
theorem pot_back {m : Nat} {h : Int} (hm : bn g = m + 1) : pot (m, bb g, bh g, bw g, bx g) h + bw g (m + 1) = pot g h := by
  unfold pot
  rw [hm]
  show sm (bw g) (m + 1) + (if h = 2 ∨ h = 3 then 1 else 0) + bw g (m + 1) = sm (bw g) (m + 1) + bw g (m + 1) + (if h = 2 ∨ h = 3 then 1 else 0)
  omega
end RUN
