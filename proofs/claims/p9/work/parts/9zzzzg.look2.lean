/-! look at the law's level. -/
section LOOKL
variable {n : Nat} {x : Int} {r : tab} {s s1 : rS} {out : hm_Out}
def RG2 (r : tab) : Prop := ∀ j, j < 58 → r 106 j ≤ 9223372036854775807 ∧ r 122 j ≤ 9223372036854775807
theorem rg2_of {g : hm_G} (h : rP g r) : RG2 r := fun j hj => by
  have a : -9223372036854775808 ≤ r 106 j ∧ r 106 j ≤ 9223372036854775807 := Rp_rg h (k := 106) (t := .inl .long) (n := 58) rfl hj
  have b : -9223372036854775808 ≤ r 122 j ∧ r 122 j ≤ 9223372036854775807 := Rp_rg h (k := 122) (t := .inl .long) (n := 58) rfl hj
  exact ⟨a.2, b.2⟩
theorem cr_rg2 {d i : Nat} {vs : List Value} {Q : rS → hm_Out → Prop} (h : RG2 s.1 → cr d i vs s Q) : cr d i vs s Q := fun g hg hc => h (rg2_of hg) g hg hc
theorem XL_R {c : Nat} {T : Int → Prop} : ∀ (s1 : rS) (out : hm_Out), XPL c T s s1 out → RF s1.1 ∧ out ≠ none := by
  rintro s1 out ⟨⟨v, rfl, _⟩, _, ⟨C, D, E, hK, _⟩, _⟩
  exact ⟨hK.1, by intro q; cases q⟩
theorem M3_R {c : Nat} {T : Int → Prop} : ∀ (s1 : rS) (out : hm_Out), MJ3 c T s s1 out → RF s1.1 ∧ out ≠ none := by
  rintro s1 out ⟨⟨v, rfl, _⟩, _, hR, _⟩
  exact ⟨hR, by intro q; cases q⟩
theorem c9_look {d C D F : Nat} (s : rS) (hX : XI C D F s.1) (hL : LV6 n s.1) (hx : -2147483648 ≤ x ∧ x ≤ 2147483647) : cr (d + 4) 113 [.ref 96, vi x] s (fun s1 out => XPL 2 (fun t => t = 0) s s1 out ∧ W6 n (fun t => wG 41 [x] t) 2 s s1 out) := w6_call hL hX.1.1 hX.2.1 hX.2.2.2.2.1 (zz_look s hX hx) (fun _ t s0 hE h96 _ => w_t113 s0 t x hE h96 hx) XL_R
theorem lk_E {k j : Nat} (h : LKk k j) : relE k j = true := by
  rcases h with ⟨h1, h2⟩ | ⟨h1, h2⟩
  · have : k = 181 ∨ k = 182 ∨ k = 183 ∨ k = 184 ∨ k = 185 := by omega
    rcases this with q | q | q | q | q <;> (rw [q]; rfl)
  · rw [h1, h2]
    rfl
theorem r9_look {d C1 D1 C0 D0 F0 : Nat} (hL : LV6 n s.1) (hXI : XI C0 D0 F0 s.1) (hrg : RGx s.1) (hrg2 : RG2 s.1) (h97 : s.1 97 1 = s.1 170 1) (hj : HL s.1 s1.1) (hR1 : RF s1.1) (hS1 : SI C1 D1 s1.1) (hx : i32 x) (hW : W6 n (fun t => wG 41 [x] t) 2 s s1 out) : cr (d + 1 + 1) 175 [.ref 170, vi x] s1 (fun s2 out2 => MJ3 2 (fun t => t = 0) s1 s2 out2 ∧ out2 = out) := by
  have t0 : 0 ≤ s.1 97 1 ∧ s.1 97 1 ≤ 2000 := kb_to rfl (hXI.1.2 97 1)
  obtain ⟨m, hm⟩ : ∃ m : Nat, s.1 97 1 = (m : Int) := ⟨(s.1 97 1).toNat, by omega⟩
  have m20 : s1.1 170 20 = s.1 170 20 := hj 170 20 (by omega)
  have m0 := hL.1.1.2
  rcases hW with ⟨mm, C, t, h1, h2, ob, z, t1, h3, h4, h5, h6⟩ | ⟨mm, C, D, K, M, t, e, h1, ob, z, t1, h3, h4, h5, h6⟩
  · have hE := tne_E (SI_C hS1) hR1 hS1.2.2.1
    have e20 : tne C1 s1.1 170 20 = 0 := (e_get hE (k := 170) (j := 20) rfl (by omega) ⟨_, _, rfl, by decide⟩).symm.trans (m20.trans (m0.symm.trans mm))
    refine cr_mono (e_call hE (ql_look (d := d) s1 hR1 hS1 hx) (fun s0 hE0 _ => e_t175 s0 _ x hE0 hx) M3_R) ?_
    rintro s2 out2 ⟨hq, ob2, z2, e2, g1, g2, g3, g4⟩
    have h5 : wG 41 [x] t = some (some (z, t1)) := h5
    rw [wG_113] at h5
    unfold wM113 at h5
    rw [if_pos h2] at h5
    rw [eG_175] at g3
    unfold eM175 at g3
    rw [if_pos e20] at g3
    cases h5
    cases g3
    refine ⟨hq, ?_⟩
    rw [g1, h3, (rt_2 g2).1, (rt_2 h4).1]
  · have hE : EEr eP D e s1.1 := EEr_fr h1.2.2.1 hR1 (hj 170 17 (by omega)) (fun k j w => hj _ _ (by have := e_p h1.2.2.1.1 w; omega))
    obtain ⟨f1, f2, f3, f4, f5⟩ := WD_f h1
    have hD : D = 177 ∨ D = 186 := h1.2.2.1.1
    have hC : C = 99 ∨ C = 115 := h1.2.1.1
    have lkd := h1.2.2.2.2.2.2.2.2.2
    have rows : ∀ k j, LKk k j → inR (ph eP D k) j → e k j = K.2.1 k j := fun k j q i => by
      have a := (h1.2.2.1.2.2.2.1 k j (lk_E q)).2 i
      rw [← a]
      exact lkd.2 k j q i
    have in1 : ∀ j, j < 2000 → inR (ph eP D 181) j := by
      rw [ph_E hD (by omega)]
      rcases hD with q | q
      · rw [q]
        exact fun j hj => ⟨_, 2000, rfl, hj⟩
      · rw [q]
        exact fun j hj => ⟨_, 2000, rfl, hj⟩
    have in2 : ∀ k i, 182 ≤ k ∧ k ≤ 185 → i < 100 → inR (ph eP D k) i := fun k i hk hi => by
      rw [ph_E hD (by omega)]
      have k4 : k = 182 ∨ k = 183 ∨ k = 184 ∨ k = 185 := by omega
      rcases hD with q | q
      · rcases k4 with w | w | w | w <;> (rw [q, w]; exact ⟨_, 100, rfl, hi⟩)
      · rcases k4 with w | w | w | w <;> (rw [q, w]; exact ⟨_, 100, rfl, hi⟩)
    have in3 : inR (ph eP D 177) 18 := by
      rw [ph_E hD (by omega)]
      rcases hD with q | q
      · rw [q]
        exact ⟨_, 19, rfl, by decide⟩
      · rw [q]
        exact ⟨_, 19, rfl, by decide⟩
    have hr : ∀ j, j < 58 → K.1 106 j ≤ 9223372036854775807 := fun j hj2 => by
      have a := (h1.2.1.2.2.2.1 106 j rfl).2
      rw [show ph wP C 106 = C + 7 from if_pos ⟨by decide, by decide⟩] at a
      rw [← h1.2.2.2.2.1.1 106 j (by omega)]
      rcases hC with q | q
      · rw [q] at a
        rw [← a ⟨_, 58, rfl, hj2⟩]
        exact (hrg2 j hj2).1
      · rw [q] at a
        rw [← a ⟨_, 58, rfl, hj2⟩]
        exact (hrg2 j hj2).2
    refine cr_mono (e_call hE (ql_look (d := d) s1 hR1 hS1 hx) (fun s0 hE0 _ => e_t175 s0 _ x hE0 hx) M3_R) ?_
    rintro s2 out2 ⟨hq, ob2, z2, e2, g1, g2, g3, g4⟩
    have zz := lk_eq (B := fun j => s.1 98 j) (m := m) h1.2.2.2.1 h1.2.2.2.2.1 (fun q hq => (h1.2.2.2.2.2.1 q hq).2.2) lkd.1 (fun j hj2 => rows 181 j (by unfold LKk; omega) (in1 j hj2)) (fun k i q hi => rows k i (by unfold LKk; omega) (in2 k i q hi)) (rows 177 18 (by unfold LKk; omega) in3) ((w_get h1.2.1 (k := 97) (j := 1) rfl (by omega) ⟨_, _, rfl, by decide⟩).symm.trans hm) ((e_get h1.2.2.1 (k := 170) (j := 1) rfl (by omega) ⟨_, _, rfl, by decide⟩).symm.trans (h97.symm.trans hm)) (by omega) (fun j hj2 => ⟨(w_get h1.2.1 (k := 98) (j := j) rfl (by omega) ⟨_, 2000, rfl, by omega⟩).symm, hrg.1 j (by omega)⟩) (fun j hj2 => (e_get h1.2.2.1 (k := 171) (j := j) rfl (by omega) ⟨_, 2000, rfl, by omega⟩).symm.trans (hL.2.1 j (by omega)).symm) hr (f2.trans mm) (f3.trans (m0.symm.trans mm)) h5 g3
    refine ⟨hq, ?_⟩
    rw [g1, h3, (rt_2 g2).1, (rt_2 h4).1, zz]
end LOOKL
