/-! The calls of Work's, in both. -/
section STEP6
variable {n : Nat} {x v : Int} {s s1 : rS} {out : hm_Out}
theorem rt_1 {z : Int} {ob : Option Value} (h : rtv 1 z ob) : ob = some (vi z) ∧ i32 z := h
theorem rt_2 {z : Int} {ob : Option Value} (h : rtv 2 z ob) : ob = some (vl z) ∧ i64 z := h
theorem c6_run {d C D F : Nat} (s : rS) (hX : XI C D F s.1) (hL : LV6 n s.1) (hx : -2147483648 ≤ x ∧ x ≤ 2147483647) : cr (d + 8) 81 [.ref 96, vi x] s (fun s1 out => XP4 1 (fun t => t = s.1 97 1) s s1 out ∧ W6 n (fun t => wG 43 [x] t) 1 s s1 out) := w6_call hL hX.1.1 hX.2.1 hX.2.2.2.2.1 (zz_run s hX hx) (fun _ t s0 hE h96 _ => w_t81 s0 t x hE h96 hx) XP_R
theorem c6_give {d C D F : Nat} (s : rS) (hX : XI C D F s.1) (hL : LV6 n s.1) (hx : -2147483648 ≤ x ∧ x ≤ 2147483647) (hv : -2147483648 ≤ v ∧ v ≤ 2147483647) : cr (d + 2) 111 [.ref 96, vi x, vi v] s (fun s1 out => XP4 1 (fun t => t = s.1 97 1) s s1 out ∧ W6 n (fun t => wG 44 [x, v] t) 1 s s1 out) := w6_call hL hX.1.1 hX.2.1 hX.2.2.2.2.1 (zz_give s hX hx hv) (fun _ t s0 hE h96 _ => w_t111 s0 t x v hE h96 hx hv) XP_R
theorem c6_take {d C D F : Nat} (s : rS) (hX : XI C D F s.1) (hL : LV6 n s.1) (hx : -2147483648 ≤ x ∧ x ≤ 2147483647) : cr (d + 2) 112 [.ref 96, vi x] s (fun s1 out => XP4 2 (fun t => t = s.1 97 1) s s1 out ∧ W6 n (fun t => wG 45 [x] t) 2 s s1 out) := w6_call hL hX.1.1 hX.2.1 hX.2.2.2.2.1 (zz_take s hX hx) (fun _ t s0 hE h96 _ => w_t112 s0 t x hE h96 hx) XP_R
theorem c6_begin {d C D F : Nat} (s : rS) (hX : XI C D F s.1) (hL : LV6 n s.1) : cr (d + 3) 80 [.ref 96] s (fun s1 out => XP4 1 (fun t => t = s.1 97 1) s s1 out ∧ W6 n (fun t => wG 42 [] t) 1 s s1 out) := w6_call hL hX.1.1 hX.2.1 hX.2.2.2.2.1 (zz_begin s hX) (fun _ t s0 hE h96 _ => w_t80 s0 t hE h96) XP_R
theorem r6_run {d C1 D1 : Nat} (hn : n ≤ 64) (hL : LV6 n s.1) (hj : HJ4 s.1 s1.1) (hR1 : RF s1.1) (hS1 : SI C1 D1 s1.1) (hx : i32 x) (hW : W6 n (fun t => wG 43 [x] t) 1 s s1 out) : cr (d + 6 + 1) 162 [.ref 170, vi x] s1 (fun s2 out2 => MJ2 1 (fun t => t = s1.1 170 1) s1 s2 out2 ∧ out2 = out ∧ LV6 (n + 1) s2.1) := by
  have v0 := W6_142 hW
  have m20 : s1.1 170 20 = s.1 170 20 := hj 170 20 (by omega)
  rcases hW with ⟨m, C, t, h1, h2, ob, z, t1, h3, h4, h5, h6⟩ | ⟨m, C, D, K, M, t, e, h1, ob, z, t1, h3, h4, h5, h6⟩
  · have hE := tne_E (SI_C hS1) hR1 hS1.2.2.1
    have e20 : tne C1 s1.1 170 20 = 0 := (e_get hE (k := 170) (j := 20) rfl (by omega) ⟨_, _, rfl, by decide⟩).symm.trans (m20.trans (hL.1.1.2.symm.trans m))
    refine cr_mono (e_call hE (qq_run (d := d) s1 hR1 hS1 hx) (fun s0 hE0 _ => e_t162 s0 _ x hE0 hx) MJ_R) ?_
    rintro s2 out2 ⟨hq, ob2, z2, e2, g1, g2, g3, g4⟩
    have h5 : wG 43 [x] t = some (some (z, t1)) := h5
    rw [wG_81] at h5
    unfold wM81 at h5
    rw [if_neg (fun w => w h2)] at h5
    rw [eG_162] at g3
    unfold eM162 at g3
    rw [if_neg (fun w => w e20)] at g3
    cases h5
    cases g3
    refine ⟨hq, ?_, LV6_l hL hj hq.2.2.2.1 v0 (fun _ j hj2 => (w_get h6 (k := 144) (j := j) rfl (by omega) ⟨_, _, rfl, hj2⟩).trans (w_get h1 (k := 144) (j := j) rfl (by omega) ⟨_, _, rfl, hj2⟩).symm) (fun q => by omega)⟩
    rw [g1, h3, (rt_1 g2).1, (rt_1 h4).1]
  · have hE := E_mid h1.2.2.1 hj hR1
    obtain ⟨f1, f2, f3, f4, f5⟩ := WD_f h1
    refine cr_mono (e_call hE (qq_run (d := d) s1 hR1 hS1 hx) (fun s0 hE0 _ => e_t162 s0 _ x hE0 hx) MJ_R) ?_
    rintro s2 out2 ⟨hq, ob2, z2, e2, g1, g2, g3, g4⟩
    have m0 := hL.1.1.2
    obtain ⟨w1, w2⟩ := run_c h1.2.2.2.1 h1.2.2.2.2.1 (by omega) (by omega) (by omega) h5 g3
    refine ⟨hq, ?_, LV6_l hL hj hq.2.2.2.1 v0 (fun q => by omega) (fun _ => ⟨C, D, K, M, t1, e2, WD_mk h1 hj hq.2.2.2.1 hq.2.2.1 h6 g4 (BTW_up w2 (by omega))⟩)⟩
    rw [g1, h3, (rt_1 g2).1, (rt_1 h4).1, w1]
theorem r6_give {d C1 D1 : Nat} (hL : LV6 n s.1) (hj : HJ4 s.1 s1.1) (hR1 : RF s1.1) (hS1 : SI C1 D1 s1.1) (hx : i32 x) (hv : i32 v) (hW : W6 n (fun t => wG 44 [x, v] t) 1 s s1 out) : cr (d + 1 + 1) 173 [.ref 170, vi x, vi v] s1 (fun s2 out2 => MJ2 1 (fun t => t = s1.1 170 1) s1 s2 out2 ∧ out2 = out ∧ LV6 (n + 1) s2.1) := by
  have v0 := W6_142 hW
  have m20 : s1.1 170 20 = s.1 170 20 := hj 170 20 (by omega)
  rcases hW with ⟨m, C, t, h1, h2, ob, z, t1, h3, h4, h5, h6⟩ | ⟨m, C, D, K, M, t, e, h1, ob, z, t1, h3, h4, h5, h6⟩
  · have hE := tne_E (SI_C hS1) hR1 hS1.2.2.1
    have e20 : tne C1 s1.1 170 20 = 0 := (e_get hE (k := 170) (j := 20) rfl (by omega) ⟨_, _, rfl, by decide⟩).symm.trans (m20.trans (hL.1.1.2.symm.trans m))
    refine cr_mono (e_call hE (qq_give (d := d) s1 hR1 hS1 hx hv) (fun s0 hE0 _ => e_t173 s0 _ x v hE0 hx hv) MJ_R) ?_
    rintro s2 out2 ⟨hq, ob2, z2, e2, g1, g2, g3, g4⟩
    have h5 : wG 44 [x, v] t = some (some (z, t1)) := h5
    rw [wG_111] at h5
    unfold wM111 at h5
    rw [if_pos h2] at h5
    rw [eG_173] at g3
    unfold eM173 at g3
    rw [if_pos e20] at g3
    cases h5
    cases g3
    refine ⟨hq, ?_, LV6_l hL hj hq.2.2.2.1 v0 (fun _ j hj2 => (w_get h6 (k := 144) (j := j) rfl (by omega) ⟨_, _, rfl, hj2⟩).trans (w_get h1 (k := 144) (j := j) rfl (by omega) ⟨_, _, rfl, hj2⟩).symm) (fun q => by omega)⟩
    rw [g1, h3, (rt_1 g2).1, (rt_1 h4).1]
  · have hE := E_mid h1.2.2.1 hj hR1
    obtain ⟨f1, f2, f3, f4, f5⟩ := WD_f h1
    have m0 := hL.1.1.2
    have cn : K.2.1 177 7 = K.1 109 3 ∧ 0 ≤ K.1 109 3 ∧ K.1 109 3 ≤ LIM 3 := h1.2.2.2.2.2.1 3 (by omega)
    have lm : LIM 3 = 4 := rfl
    have k9 := h1.2.2.2.2.1.1 109 3 (by omega)
    refine cr_mono (e_call hE (qq_give (d := d) s1 hR1 hS1 hx hv) (fun s0 hE0 _ => e_t173 s0 _ x v hE0 hx hv) MJ_R) ?_
    rintro s2 out2 ⟨hq, ob2, z2, e2, g1, g2, g3, g4⟩
    obtain ⟨z9, t9, e9, w1, w2, w3, _⟩ := gv_eq (x := x) (v := v) h1.2.2.2.2.1 (by omega) (by omega)
    have h5 : wG 44 [x, v] t = some (some (z, t1)) := h5
    rw [w1] at h5
    rw [w2] at g3
    cases h5
    cases g3
    refine ⟨hq, ?_, LV6_l hL hj hq.2.2.2.1 v0 (fun q => by omega) (fun _ => ⟨C, D, K, M, _, _, WD_mk h1 hj hq.2.2.2.1 hq.2.2.1 h6 g4 (BTW_up w3 (by omega))⟩)⟩
    rw [g1, h3, (rt_1 g2).1, (rt_1 h4).1]
theorem r6_take {d C1 D1 : Nat} (hL : LV6 n s.1) (hj : HJ4 s.1 s1.1) (hR1 : RF s1.1) (hS1 : SI C1 D1 s1.1) (hx : i32 x) (hW : W6 n (fun t => wG 45 [x] t) 2 s s1 out) : cr (d + 1 + 1) 174 [.ref 170, vi x] s1 (fun s2 out2 => MJ2 2 (fun t => t = s1.1 170 1) s1 s2 out2 ∧ out2 = out ∧ LV6 (n + 1) s2.1) := by
  have v0 := W6_142 hW
  have m20 : s1.1 170 20 = s.1 170 20 := hj 170 20 (by omega)
  rcases hW with ⟨m, C, t, h1, h2, ob, z, t1, h3, h4, h5, h6⟩ | ⟨m, C, D, K, M, t, e, h1, ob, z, t1, h3, h4, h5, h6⟩
  · have hE := tne_E (SI_C hS1) hR1 hS1.2.2.1
    have e20 : tne C1 s1.1 170 20 = 0 := (e_get hE (k := 170) (j := 20) rfl (by omega) ⟨_, _, rfl, by decide⟩).symm.trans (m20.trans (hL.1.1.2.symm.trans m))
    refine cr_mono (e_call hE (qq_take (d := d) s1 hR1 hS1 hx) (fun s0 hE0 _ => e_t174 s0 _ x hE0 hx) MJ_R) ?_
    rintro s2 out2 ⟨hq, ob2, z2, e2, g1, g2, g3, g4⟩
    have h5 : wG 45 [x] t = some (some (z, t1)) := h5
    rw [wG_112] at h5
    unfold wM112 at h5
    rw [if_pos h2] at h5
    rw [eG_174] at g3
    unfold eM174 at g3
    rw [if_pos e20] at g3
    cases h5
    cases g3
    refine ⟨hq, ?_, LV6_l hL hj hq.2.2.2.1 v0 (fun _ j hj2 => (w_get h6 (k := 144) (j := j) rfl (by omega) ⟨_, _, rfl, hj2⟩).trans (w_get h1 (k := 144) (j := j) rfl (by omega) ⟨_, _, rfl, hj2⟩).symm) (fun q => by omega)⟩
    rw [g1, h3, (rt_2 g2).1, (rt_2 h4).1]
  · have hE := E_mid h1.2.2.1 hj hR1
    obtain ⟨f1, f2, f3, f4, f5⟩ := WD_f h1
    have m0 := hL.1.1.2
    have cn : K.2.1 177 8 = K.1 109 4 ∧ 0 ≤ K.1 109 4 ∧ K.1 109 4 ≤ LIM 4 := h1.2.2.2.2.2.1 4 (by omega)
    have lm : LIM 4 = 4 := rfl
    have k9 := h1.2.2.2.2.1.1 109 4 (by omega)
    refine cr_mono (e_call hE (qq_take (d := d) s1 hR1 hS1 hx) (fun s0 hE0 _ => e_t174 s0 _ x hE0 hx) MJ_R) ?_
    rintro s2 out2 ⟨hq, ob2, z2, e2, g1, g2, g3, g4⟩
    obtain ⟨z9, t9, e9, w1, w2, w3, _⟩ := tk_eq (x := x) h1.2.2.2.2.1 (by omega) (by omega)
    have h5 : wG 45 [x] t = some (some (z, t1)) := h5
    rw [w1] at h5
    rw [w2] at g3
    cases h5
    cases g3
    refine ⟨hq, ?_, LV6_l hL hj hq.2.2.2.1 v0 (fun q => by omega) (fun _ => ⟨C, D, K, M, _, _, WD_mk h1 hj hq.2.2.2.1 hq.2.2.1 h6 g4 (BTW_up w3 (by omega))⟩)⟩
    rw [g1, h3, (rt_2 g2).1, (rt_2 h4).1]
end STEP6
