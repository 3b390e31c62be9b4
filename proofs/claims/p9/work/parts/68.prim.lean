/-! The small methods of the reference, by what holds. -/
theorem LX_of {C : Nat} {y : gH} {r : tab} (h : PI C y r) : LX r := h.2.1
theorem NM_of {C : Nat} {y : gH} {r : tab} (h : PI C y r) : NM r := h.2.2.1
theorem PI_rf {C : Nat} {y : gH} {r : tab} (h : PI C y r) : BX C (gn y) r r := BX_rf h.2.1 h.2.2.1 h.2.2.2.1.1.2
/-- code below is kept -/
theorem BX_code {C nr p : Nat} {r r2 : tab} (hC : C = 177 ∨ C = 186) (h : BX C nr r r2) (hp : (p : Int) < r C 1) : r2 (C + 1) p = r (C + 1) p := h.1 (C + 1) p (by unfold SS; omega)
/-- what tokens' methods keep -/
def KL (C : Nat) (r r2 : tab) : Prop := (∀ k j, ¬ (k = 170 ∧ 3 ≤ j ∧ j ≤ 7) → r2 k j = r k j) ∧ r2 C 1 = r C 1 ∧ r2 C 3 = r C 3 ∧ r2 C 10 = r C 10 ∧ r2 170 14 = r 170 14 ∧ r2 170 16 = r 170 16 ∧ r2 170 21 = r 170 21 ∧ r2 170 26 = r 170 26
/-- what the code's methods keep -/
def KC (C : Nat) (r r2 : tab) : Prop := (∀ j, r2 170 j = r 170 j) ∧ r2 170 4 = r 170 4 ∧ r2 170 5 = r 170 5 ∧ r2 170 6 = r 170 6 ∧ r2 170 7 = r 170 7 ∧ r2 C 10 = r C 10 ∧ r2 170 14 = r 170 14 ∧ r2 170 16 = r 170 16 ∧ r2 170 21 = r 170 21 ∧ r2 170 26 = r 170 26
section PRIM
variable {d C m : Nat} {y : gH}
theorem KL_of {r r2 : tab} (hC : C = 177 ∨ C = 186) (h : same 170 [3, 4, 5, 6, 7] r r2) : KL C r r2 := by
  have u : ∀ k j, ¬ (k = 170 ∧ 3 ≤ j ∧ j ≤ 7) → r2 k j = r k j := fun k j hn => h k j fun q => hn ⟨q.1, by have := q.2; simp only [List.mem_cons, List.not_mem_nil, or_false] at this; omega⟩
  exact ⟨u, u _ _ (by omega), u _ _ (by omega), u _ _ (by omega), u _ _ (by omega), u _ _ (by omega), u _ _ (by omega), u _ _ (by omega)⟩
theorem BX_lex {r r2 : tab} (hC : C = 177 ∨ C = 186) (hP : PI C y r) (k : KL C r r2) (hL : LX r2) (hf : r 170 5 ≤ r2 170 5) : BX C (gn y) r r2 := by
  obtain ⟨a1, a2, a3, a4, a5, a6, a7, a8, a9, a10, a11, a12⟩ := PI_rf hP
  obtain ⟨u, u1, u3, u10, u14, u16, u21, u26⟩ := k
  exact ⟨fun k j hn => u k j fun q => hn (by unfold SS; omega), hL, NM_at a3 (u _ _ (by omega)) (fun k j h1 h2 => u _ _ (by omega)), hf, by omega, by omega, by rw [u C 4 (by omega)]; omega, by rw [u C 4 (by omega)]; exact a8, by rw [u C 4 (by omega)]; exact a9, fun k h1 h2 => absurd h2 (by omega), by rw [u21]; exact id, by rw [u26]; exact a12⟩
theorem x_step (hC : C = 177 ∨ C = 186) (s : rS) (hR : RF s.1) (hP : PI C y s.1) : cr (d + 6) 123 [.ref 170] s (fun s2 out => out = some none ∧ s2.2 = s.2 ∧ RF s2.1 ∧ BX C (gn y) s.1 s2.1 ∧ KL C s.1 s2.1 ∧ s.1 170 6 ≤ s2.1 170 5) := by
  obtain ⟨x0, x1, x2, x3, x4, x5, x6⟩ := LX_of hP
  refine cr_mono (c_step (d := d) s hR ⟨by omega, by omega, by omega⟩) ?_
  rintro s2 out ⟨rfl, h1, h2, h3, h4⟩
  have hk := KL_of hC h2
  have hb := BX_lex hC hP hk h4 (by omega)
  exact ⟨rfl, h1, BX_RF hC hb hR, hb, hk, by omega⟩
theorem x_take {q q1 : Nat} {l : List Value} (hT : isT q q1 l) (hC : C = 177 ∨ C = 186) (s : rS) (hR : RF s.1) (hP : PI C y s.1) : cr (d + 7) 136 [.ref 170, .ref q] s (fun s2 out => ∃ b : Int, out = some (some (vi b)) ∧ s2.2 = s.2 ∧ (b = 0 ∧ FR C s.1 s2.1 ∨ b = 1 ∧ RF s2.1 ∧ BX C (gn y) s.1 s2.1 ∧ KL C s.1 s2.1 ∧ s.1 170 5 + (l.length : Int) ≤ s2.1 170 5)) := by
  obtain ⟨x0, x1, x2, x3, x4, x5, x6⟩ := LX_of hP
  refine cr_mono (c_take (d := d) hT s hR (LX_of hP)) ?_
  rintro s2 out ⟨b, rfl, h1, ⟨rfl, h2⟩ | ⟨rfl, h2, h3, h4, h5⟩⟩
  · exact ⟨0, rfl, h1, .inl ⟨rfl, FR_bad h2⟩⟩
  · have hk := KL_of hC h2
    have hb := BX_lex hC hP hk h3 (by omega)
    exact ⟨1, rfl, h1, .inr ⟨rfl, BX_RF hC hb hR, hb, hk, by omega⟩⟩
theorem x_bad0 (s : rS) (hR : RF s.1) : cr (d + 2) 131 [.ref 170] s (fun s2 out => out = some (some (vi 0)) ∧ s2.2 = s.2 ∧ FR C s.1 s2.1) := by
  refine cr_mono (c_bad0 (d := d) s hR) ?_
  rintro s2 out ⟨rfl, h1, h2⟩
  exact ⟨rfl, h1, FR_bad h2⟩
theorem x_bad1 {a : Int} (s : rS) (hR : RF s.1) (ha : i32 a) : cr (d + 1) 132 [.ref 170, vi a] s (fun s2 out => out = some (some (vi 0)) ∧ s2.2 = s.2 ∧ FR C s.1 s2.1) := by
  refine cr_mono (c_bad1 (d := d) s hR ha) ?_
  rintro s2 out ⟨rfl, h1, h2⟩
  exact ⟨rfl, h1, FR_bad h2⟩
theorem x_put {v : Int} (hC : C = 177 ∨ C = 186) (s : rS) (hR : RF s.1) (hP : PI C y s.1) (hv : i32 v) (hm : s.1 C 1 = (m : Int)) (hm2 : m < 24000) : cr (d + 1) 140 [.ref 170, vi v] s (fun s2 out => out = some (some (vi (m : Int))) ∧ s2.2 = s.2 ∧ RF s2.1 ∧ BX C (gn y) s.1 s2.1 ∧ KC C s.1 s2.1 ∧ s2.1 C 1 = ((m + 1 : Nat) : Int) ∧ s2.1 C 3 = s.1 C 3 ∧ s2.1 (C + 1) m = v) := by
  refine cr_mono (c_put (d := d) hC s hR hP.1 hv (by omega)) ?_
  rintro s2 out ⟨rfl, h1⟩
  rw [hm] at h1 ⊢
  rw [show ((m : Int)).toNat = m by omega] at h1
  subst h1
  have hb : BX C (gn y) s.1 (up2 (up2 s.1 (C + 1) m v) C 1 ((m : Int) + 1)) := BX_many hC (BX_set hC (PI_rf hP) (by unfold SS; omega) (by unfold quiet; omega)) (by omega)
  have u : ∀ k j, ¬ (k = C + 1 ∧ j = m) → ¬ (k = C ∧ j = 1) → up2 (up2 s.1 (C + 1) m v) C 1 ((m : Int) + 1) k j = s.1 k j := fun k j h1 h2 => (if_neg h2).trans (if_neg h1)
  refine ⟨rfl, rfl, BX_RF hC hb hR, hb, ⟨fun j => u _ _ (by omega) (by omega), u _ _ (by omega) (by omega), u _ _ (by omega) (by omega), u _ _ (by omega) (by omega), u _ _ (by omega) (by omega), u _ _ (by omega) (by omega), u _ _ (by omega) (by omega), u _ _ (by omega) (by omega), u _ _ (by omega) (by omega), u _ _ (by omega) (by omega)⟩, up_self, u _ _ (by omega) (by omega), ?_⟩
  exact (if_neg (by omega)).trans up_self
theorem x_put2 {op v : Int} (hC : C = 177 ∨ C = 186) (s : rS) (hR : RF s.1) (hP : PI C y s.1) (ho : i32 op) (hv : i32 v) (hm : s.1 C 1 = (m : Int)) (hm2 : m + 1 < 24000) : cr (d + 2) 147 [.ref 170, vi op, vi v] s (fun s2 out => out = some none ∧ s2.2 = s.2 ∧ RF s2.1 ∧ BX C (gn y) s.1 s2.1 ∧ KC C s.1 s2.1 ∧ s2.1 C 1 = ((m + 2 : Nat) : Int) ∧ s2.1 C 3 = s.1 C 3 ∧ s2.1 (C + 1) m = op ∧ s2.1 (C + 1) (m + 1) = v) := by
  refine cr_mono (c_put2 (d := d) hC s hR hP.1 ho hv (by omega)) ?_
  rintro s2 out ⟨rfl, h1⟩
  rw [hm] at h1
  rw [show ((m : Int)).toNat = m by omega, show ((m : Int) + 1).toNat = m + 1 by omega] at h1
  subst h1
  have hb : BX C (gn y) s.1 (up2 (up2 (up2 (up2 s.1 (C + 1) m op) C 1 ((m : Int) + 1)) (C + 1) (m + 1) v) C 1 ((m : Int) + 1 + 1)) := BX_many hC (BX_set hC (BX_many hC (BX_set hC (PI_rf hP) (by unfold SS; omega) (by unfold quiet; omega)) (by omega)) (by unfold SS; omega) (by unfold quiet; omega)) (by omega)
  have u : ∀ k j, ¬ (k = C + 1 ∧ (j = m ∨ j = m + 1)) → ¬ (k = C ∧ j = 1) → up2 (up2 (up2 (up2 s.1 (C + 1) m op) C 1 ((m : Int) + 1)) (C + 1) (m + 1) v) C 1 ((m : Int) + 1 + 1) k j = s.1 k j := fun k j h1 h2 => (if_neg h2).trans ((if_neg (by omega)).trans ((if_neg h2).trans (if_neg (by omega))))
  refine ⟨rfl, rfl, BX_RF hC hb hR, hb, ⟨fun j => u _ _ (by omega) (by omega), u _ _ (by omega) (by omega), u _ _ (by omega) (by omega), u _ _ (by omega) (by omega), u _ _ (by omega) (by omega), u _ _ (by omega) (by omega), u _ _ (by omega) (by omega), u _ _ (by omega) (by omega), u _ _ (by omega) (by omega), u _ _ (by omega) (by omega)⟩, up_self, u _ _ (by omega) (by omega), ?_, ?_⟩
  · exact (if_neg (by omega)).trans ((if_neg (by omega)).trans ((if_neg (by omega)).trans up_self))
  · exact (if_neg (by omega)).trans up_self
theorem x_part (hC : C = 177 ∨ C = 186) (s : rS) (hR : RF s.1) (hP : PI C y s.1) (hm : s.1 C 1 = (m : Int)) (hm2 : m < 24000) (hp : 0 ≤ s.1 C 3 ∧ s.1 C 3 ≤ 24000) : cr (d + 2) 142 [.ref 170] s (fun s2 out => out = some none ∧ s2.2 = s.2 ∧ RF s2.1 ∧ BX C (gn y) s.1 s2.1 ∧ KC C s.1 s2.1 ∧ s2.1 C 1 = ((m + 1 : Nat) : Int) ∧ s2.1 C 3 = s.1 C 3 + 1 ∧ s2.1 (C + 1) m = 0) := by
  refine cr_mono (c_part (d := d) hC s hR hP.1 (by omega) (by omega)) ?_
  rintro s2 out ⟨rfl, h1⟩
  rw [hm] at h1
  rw [show ((m : Int)).toNat = m by omega] at h1
  subst h1
  have hb : BX C (gn y) s.1 (up2 (up2 (up2 s.1 (C + 1) m 0) C 1 ((m : Int) + 1)) C 3 (s.1 C 3 + 1)) := BX_set hC (BX_many hC (BX_set hC (PI_rf hP) (by unfold SS; omega) (by unfold quiet; omega)) (by omega)) (by unfold SS; omega) (by unfold quiet; omega)
  have u : ∀ k j, ¬ (k = C + 1 ∧ j = m) → ¬ (k = C ∧ (j = 1 ∨ j = 3)) → up2 (up2 (up2 s.1 (C + 1) m 0) C 1 ((m : Int) + 1)) C 3 (s.1 C 3 + 1) k j = s.1 k j := fun k j h1 h2 => (if_neg (by omega)).trans ((if_neg (by omega)).trans (if_neg h1))
  refine ⟨rfl, rfl, BX_RF hC hb hR, hb, ⟨fun j => u _ _ (by omega) (by omega), u _ _ (by omega) (by omega), u _ _ (by omega) (by omega), u _ _ (by omega) (by omega), u _ _ (by omega) (by omega), u _ _ (by omega) (by omega), u _ _ (by omega) (by omega), u _ _ (by omega) (by omega), u _ _ (by omega) (by omega), u _ _ (by omega) (by omega)⟩, ?_, up_self, ?_⟩
  · exact (if_neg (by omega)).trans up_self
  · exact (if_neg (by omega)).trans ((if_neg (by omega)).trans up_self)
end PRIM
