/-! A branch that is made. -/
theorem sm_add {u v : Nat → Nat} {o B B2 : Nat} (h : o < B ∧ B2 = B ∧ v o = 0 ∨ o = B ∧ B2 = B + 1) (hx : ∀ j, j < B → j ≠ o → u j = v j) : sm u B2 = sm v B + u o := by
  rcases h with ⟨h1, h2, h3⟩ | ⟨h1, h2⟩
  · subst h2
    have := sm_one h1 hx
    omega
  · subst h1
    subst h2
    show sm u o + u o = _
    rw [sm_ext (fun i hi => hx i hi (by omega))]
section CHILD
variable {F : Ph} {G : Nat → gB} {own : Nat → Nat → Prop} {b k : Nat} {r r2 : tab}
/-- there is room for one more -/
theorem FK_room {z : Nat} (h : FK F b k r G own) (hz : own b z) (hz9 : z < 699) (hzx : 1 ≤ b → z ≠ fow (bx (G b) 0)) (hall : ∀ c : Nat, (c : Int) < r 170 55 → r 206 c ≠ 0) : r 170 55 < 700 := by
  obtain ⟨i1, i2, ⟨o1, o2, o3, o4, o5⟩, ⟨k1, k2, k3, k4⟩, h1, h2, h3⟩ := h
  obtain ⟨B, hB⟩ : ∃ B : Nat, r 170 55 = (B : Int) := ⟨(r 170 55).toNat, by omega⟩
  have hl : ∀ c, c < B → lv1 r c := fun c hc => ⟨by omega, hall c (by omega)⟩
  have hb : b < B := by omega
  have hne : ∀ c, c < B → 1 ≤ c → fow (bx (G c) 0) ≠ z := fun c hc h1c e => by
    by_cases eb : c = b
    · subst eb; exact hzx h1c e.symm
    · have := (o2 c (hl c hc) h1c).1
      rw [e] at this
      exact o1 c b (hl c hc) (hl b hb) eb z this hz
  have hnd : ∀ c c2, c < B → c2 < B → 1 ≤ c → 1 ≤ c2 → fow (bx (G c) 0) = fow (bx (G c2) 0) → c = c2 := fun c c2 hc hc2 h1c h1c2 e => by
    by_cases eb : c = c2
    · exact eb
    · have z1 := (o2 c (hl c hc) h1c).1
      have z2 := (o2 c2 (hl c2 hc2) h1c2).1
      rw [← e] at z2
      exact absurd z2 (o1 c c2 (hl c hc) (hl c2 hc2) eb _ z1)
  have hlt : ∀ c, c < B → 1 ≤ c → fow (bx (G c) 0) < 699 := fun c hc h1c => (o2 c (hl c hc) h1c).2.1
  have := pig 700 (B + 1) (fun i => if i = 0 then 699 else if i < B then fow (bx (G i) 0) else z) (fun i hi => by
    show (if i = 0 then 699 else if i < B then fow (bx (G i) 0) else z) < 700
    by_cases e : i = 0
    · rw [if_pos e]; omega
    · rw [if_neg e]
      by_cases e2 : i < B
      · rw [if_pos e2]; have := hlt i e2 (by omega); omega
      · rw [if_neg e2]; omega) (fun i j hi hj hij => by
    have hij : (if i = 0 then 699 else if i < B then fow (bx (G i) 0) else z) = (if j = 0 then 699 else if j < B then fow (bx (G j) 0) else z) := hij
    by_cases e : i = 0
    · rw [if_pos e] at hij
      by_cases f : j = 0
      · omega
      · rw [if_neg f] at hij
        by_cases f2 : j < B
        · rw [if_pos f2] at hij; have := hlt j f2 (by omega); omega
        · rw [if_neg f2] at hij; omega
    · rw [if_neg e] at hij
      by_cases e2 : i < B
      · rw [if_pos e2] at hij
        have hi9 := hlt i e2 (by omega)
        by_cases f : j = 0
        · rw [if_pos f] at hij; omega
        · rw [if_neg f] at hij
          by_cases f2 : j < B
          · rw [if_pos f2] at hij; exact hnd i j e2 f2 (by omega) (by omega) hij
          · rw [if_neg f2] at hij; exact absurd hij (hne i e2 (by omega))
      · rw [if_neg e2] at hij
        by_cases f : j = 0
        · rw [if_pos f] at hij; omega
        · rw [if_neg f] at hij
          by_cases f2 : j < B
          · rw [if_pos f2] at hij; exact absurd hij.symm (hne j f2 (by omega))
          · omega)
  omega
theorem FK_child {o t w : Nat} {y : fR} (h : FK F b k r G own) (hob : (o : Int) < r 170 55 ∧ r 206 o = 0 ∧ r2 170 55 = r 170 55 ∨ (o : Int) = r 170 55 ∧ r2 170 55 = r 170 55 + 1 ∧ r 170 55 < 700) (hf : ∀ i j, ¬ (205 ≤ i ∧ i ≤ 211 ∧ j = o) → ¬ (i = 170 ∧ j = 55) → r2 i j = r i j) (h5 : r2 205 o = (t : Int)) (h6 : r2 206 o = 1) (h8 : r2 208 o = 0) (h9 : r2 209 o = 0) (h10 : r2 210 o = (b : Int)) (hF : F t 0 w y) (hk1 : fk y = 1) (hrk : frk y ≤ 12) (hrm : frm y ≤ 1000) (hw1 : own b (fow y)) (hw2 : ∀ n, fz y n → own b n) (hfow : fow y < 699) (hz9 : ∀ n, fz y n → n < 699) (hny : ¬ fz y (fow y)) (hbf : 1 ≤ b → ¬ fz y (fow (bx (G b) 0)) ∧ fow (bx (G b) 0) ≠ fow y) : FK F b (k + 1) r2 (gup G o (0, fun _ => 0, fun _ => 0, fun _ => w, fun _ => y)) (gup (gup own b (fun n => own b n ∧ ¬ (fz y n ∨ n = fow y))) o (fun n => fz y n ∨ n = fow y)) ∧ mu r2 (gup G o (0, fun _ => 0, fun _ => 0, fun _ => w, fun _ => y)) = mu r G + w := by
  obtain ⟨i1, i2, ⟨o1, o2, o3, o4, o5⟩, ⟨k1, k2, k3, k4⟩, h1, h2, h3⟩ := h
  have hlb : lv1 r b := ⟨h3, by omega⟩
  have hno : ¬ lv1 r o := fun q => by have q1 := q.1; have q2 := q.2; omega
  have ho1 : 1 ≤ o := by
    by_cases e : o = 0
    · subst e; exact absurd ⟨by omega, k4⟩ hno
    · omega
  have hbo : b ≠ o := fun e => hno (by rw [← e]; exact hlb)
  have e6 : ∀ j, j ≠ o → r2 206 j = r 206 j := fun j hj => hf _ _ (by omega) (by omega)
  have e10 : ∀ j, j ≠ o → r2 210 j = r 210 j := fun j hj => hf _ _ (by omega) (by omega)
  have el : ∀ c, lv1 r2 c ↔ lv1 r c ∨ c = o := fun c => by
    unfold lv1
    by_cases e : c = o
    · subst e
      exact ⟨fun _ => .inr rfl, fun _ => ⟨by omega, by omega⟩⟩
    · rw [e6 c e]
      exact ⟨fun q => .inl ⟨by have q1 := q.1; omega, q.2⟩, fun q => by
        rcases q with q | q
        · exact ⟨by have q1 := q.1; omega, q.2⟩
        · exact absurd q e⟩
  have lo : ∀ c, lv1 r c → c ≠ o := fun c hc e => hno (by rw [← e]; exact hc)
  have hsm : ∀ v : Nat → Nat, v o = 0 ∨ ¬ r 206 o = 0 ∨ ¬ (o : Int) < r 170 55 → (o < (r 170 55).toNat ∧ (r2 170 55).toNat = (r 170 55).toNat ∧ v o = 0 ∨ o = (r 170 55).toNat ∧ (r2 170 55).toNat = (r 170 55).toNat + 1) := fun v hv => by
    rcases hob with q | q
    · left
      refine ⟨by omega, by omega, ?_⟩
      rcases hv with hv | hv | hv
      · exact hv
      · exact absurd q.2.1 hv
      · exact absurd q.1 hv
    · right
      exact ⟨by omega, by omega⟩
  have hv0 : r 206 o = 0 ∨ ¬ r 206 o = 0 ∨ ¬ (o : Int) < r 170 55 := by omega
  have ekb : kids r2 b = kids r b + 1 := by
    unfold kids
    have := sm_add (u := fun c => if r2 206 c ≠ 0 ∧ r2 210 c = (b : Int) then 1 else 0) (v := fun c => if r 206 c ≠ 0 ∧ r 210 c = (b : Int) then 1 else 0) (o := o) (hsm (fun c => if r 206 c ≠ 0 ∧ r 210 c = (b : Int) then 1 else 0) (by
      rcases hv0 with q | q
      · left
        show (if r 206 o ≠ 0 ∧ r 210 o = (b : Int) then 1 else 0) = 0
        rw [if_neg (fun z => z.1 q)]
      · exact .inr q)) (fun j _ hj => by simp only [e6 j hj, e10 j hj])
    rw [this]
    show _ + (if r2 206 o ≠ 0 ∧ r2 210 o = (b : Int) then 1 else 0) = _
    rw [if_pos ⟨by omega, h10⟩]
  have ek : ∀ c, c ≠ b → kids r2 c = kids r c := fun c hc => by
    unfold kids
    have := sm_add (u := fun d => if r2 206 d ≠ 0 ∧ r2 210 d = (c : Int) then 1 else 0) (v := fun d => if r 206 d ≠ 0 ∧ r 210 d = (c : Int) then 1 else 0) (o := o) (hsm (fun d => if r 206 d ≠ 0 ∧ r 210 d = (c : Int) then 1 else 0) (by
      rcases hv0 with q | q
      · left
        show (if r 206 o ≠ 0 ∧ r 210 o = (c : Int) then 1 else 0) = 0
        rw [if_neg (fun z => z.1 q)]
      · exact .inr q)) (fun j _ hj => by simp only [e6 j hj, e10 j hj])
    rw [this]
    show _ + (if r2 206 o ≠ 0 ∧ r2 210 o = (c : Int) then 1 else 0) = _
    rw [if_neg (fun z => hc (by have := z.2; omega))]
    rfl
  have ex : ∀ c, c ≠ o → gup G o ((0, fun _ => 0, fun _ => 0, fun _ => w, fun _ => y) : gB) c = G c := fun c hc => gup_ne hc
  have wb : ∀ n, gup (gup own b (fun n => own b n ∧ ¬ (fz y n ∨ n = fow y))) o (fun n => fz y n ∨ n = fow y) b n ↔ own b n ∧ ¬ (fz y n ∨ n = fow y) := fun n => by rw [gup_ne hbo, gup_self]
  have wo : ∀ n, gup (gup own b (fun n => own b n ∧ ¬ (fz y n ∨ n = fow y))) o (fun n => fz y n ∨ n = fow y) o n ↔ (fz y n ∨ n = fow y) := fun n => by rw [gup_self]
  have wc : ∀ c n, c ≠ o → c ≠ b → (gup (gup own b (fun n => own b n ∧ ¬ (fz y n ∨ n = fow y))) o (fun n => fz y n ∨ n = fow y) c n ↔ own c n) := fun c n e1 e2 => by rw [gup_ne e1, gup_ne e2]
  have wi : ∀ n, (fz y n ∨ n = fow y) → own b n := fun n q => by
    rcases q with q | q
    · exact hw2 n q
    · rw [q]; exact hw1
  refine ⟨⟨by omega, fun c hc => ?_, ⟨fun c d q1 q2 q3 n q4 q5 => ?_, fun c q1 q2 => ?_, fun c q1 q2 n q3 => ?_, fun c q1 q2 n q3 => ?_, fun c q1 n q3 => ?_⟩, ⟨fun c q1 q2 => ?_, fun c q1 q2 q3 => ?_, by rw [e10 0 (by omega)]; exact k3, by rw [e6 0 (by omega)]; exact k4⟩, by omega, by rw [e6 b hbo]; exact h2, by omega⟩, ?_⟩
  · rcases (el c).mp hc with q | q
    · have e := lo c q
      have hi := i2 c q
      rw [ex c e, e6 c e, hf 207 c (by omega) (by omega)]
      exact ⟨BI_at hi.1 (hf _ _ (by omega) (by omega)) (hf _ _ (by omega) (by omega)) (hf _ _ (by omega) (by omega)) (fun i => hf _ _ (by omega) (by omega)), hi.2⟩
    · subst q
      rw [gup_self, h6]
      refine ⟨⟨h9, fun i hi => ?_, fun i hi => absurd hi (Nat.not_lt_zero i), rfl, ⟨t, h5, hF⟩, ?_, .inr ⟨ho1, hk1⟩⟩, by omega, fun q => by omega⟩
      · have hi0 : i = 0 := Nat.le_zero.mp hi
        subst hi0
        exact ⟨by show 0 + frk y ≤ 12; omega, by show 0 + frm y ≤ 1000; omega, fun n q => q⟩
      · rw [h8]
        exact ⟨by unfold eo; simp, by show ((0 : Nat) : Int) + ((0 : Nat) : Int) ≤ 1000; omega, by omega, by omega⟩
  · by_cases ec : c = o
    · subst ec
      have y4 := (wo n).mp q4
      have hd := ((el d).mp q2).resolve_right (fun e => q3 e.symm)
      by_cases ed : d = b
      · subst ed; exact ((wb n).mp q5).2 y4
      · exact o1 b d hlb hd (fun e => ed e.symm) n (wi n y4) ((wc d n (fun e => q3 e.symm) ed).mp q5)
    · have hc := ((el c).mp q1).resolve_right ec
      by_cases ed : d = o
      · subst ed
        have y5 := (wo n).mp q5
        by_cases eb : c = b
        · subst eb; exact ((wb n).mp q4).2 y5
        · exact o1 c b hc hlb eb n ((wc c n ec eb).mp q4) (wi n y5)
      · have hd := ((el d).mp q2).resolve_right ed
        have z4 : own c n := by
          by_cases eb : c = b
          · subst eb; exact ((wb n).mp q4).1
          · exact (wc c n ec eb).mp q4
        have z5 : own d n := by
          by_cases eb : d = b
          · subst eb; exact ((wb n).mp q5).1
          · exact (wc d n ed eb).mp q5
        exact o1 c d hc hd q3 n z4 z5
  · by_cases ec : c = o
    · subst ec
      rw [gup_self, gup_self]
      exact ⟨.inr rfl, hfow, hny⟩
    · have hc := ((el c).mp q1).resolve_right ec
      rw [ex c ec]
      have z := o2 c hc q2
      refine ⟨?_, z.2⟩
      by_cases eb : c = b
      · subst eb
        have zf := hbf q2
        exact (wb _).mpr ⟨z.1, fun q => by
          rcases q with q | q
          · exact zf.1 q
          · exact zf.2 q⟩
      · exact (wc c _ ec eb).mpr z.1
  · by_cases ec : c = o
    · subst ec
      rw [gup_self] at q3
      exact (wo n).mpr (.inl q3)
    · have hc := ((el c).mp q1).resolve_right ec
      rw [ex c ec] at q3
      rw [e6 c ec] at q2
      have eb : c ≠ b := fun e => q2 (by rw [e]; exact h2)
      exact (wc c n ec eb).mpr (o3 c hc q2 n q3)
  · have ec : c ≠ o := fun e => by rw [e] at q2; omega
    have hc := ((el c).mp q1).resolve_right ec
    rw [ex c ec] at q3
    rw [e6 c ec] at q2
    rcases o4 c hc q2 n q3 with q | ⟨c2, z1, z2, z3, z4⟩
    · by_cases eb : c = b
      · subst eb
        by_cases hz : fz y n ∨ n = fow y
        · exact .inr ⟨o, (el o).mpr (.inr rfl), ho1, h10, by rw [gup_self]; exact hz⟩
        · exact .inl ((wb n).mpr ⟨q, hz⟩)
      · exact .inl ((wc c n ec eb).mpr q)
    · exact .inr ⟨c2, (el c2).mpr (.inl z1), z2, (e10 c2 (lo c2 z1)).trans z3, by rw [ex c2 (lo c2 z1)]; exact z4⟩
  · by_cases ec : c = o
    · subst ec
      rw [gup_self] at q3
      exact hz9 n q3
    · rw [ex c ec] at q3
      exact o5 c (((el c).mp q1).resolve_right ec) n q3
  · by_cases ec : c = o
    · subst ec
      exact ⟨b, h10, (el b).mpr (.inl hlb), (e6 b hbo).trans h2⟩
    · obtain ⟨p, p1, p2, p3⟩ := k1 c (((el c).mp q1).resolve_right ec) q2
      exact ⟨p, (e10 c ec).trans p1, (el p).mpr (.inl p2), (e6 p (lo p p2)).trans p3⟩
  · have ec : c ≠ o := fun e => by rw [e] at q2; omega
    rw [e6 c ec] at q2
    rw [ek c q3, hf 211 c (by omega) (by omega)]
    exact k2 c (((el c).mp q1).resolve_right ec) q2 q3
  · unfold mu
    have := sm_add (u := fun c => if r2 206 c = 0 then 0 else pot (gup G o ((0, fun _ => 0, fun _ => 0, fun _ => w, fun _ => y) : gB) c) (r2 206 c)) (v := fun c => if r 206 c = 0 then 0 else pot (G c) (r 206 c)) (o := o) (hsm (fun c => if r 206 c = 0 then 0 else pot (G c) (r 206 c)) (by
      rcases hv0 with q | q
      · left
        show (if r 206 o = 0 then 0 else pot (G o) (r 206 o)) = 0
        rw [if_pos q]
      · exact .inr q)) (fun j _ hj => by simp only [e6 j hj, ex j hj])
    rw [this]
    show _ + (if r2 206 o = 0 then 0 else pot (gup G o ((0, fun _ => 0, fun _ => 0, fun _ => w, fun _ => y) : gB) o) (r2 206 o)) = _
    rw [if_neg (by omega), gup_self, h6]
    have hp : pot ((0, fun _ => 0, fun _ => 0, fun _ => w, fun _ => y) : gB) 1 = w := by
      unfold pot
      rw [if_neg (by omega)]
      show (0 + w) + 0 = w
      omega
    rw [hp]
end CHILD
