/-! begin and compile, in both. -/
section COMP6
variable {K : SCt} {M n C D : Nat} {r r2 t t1 e e2 : tab} {s s1 s2 : rS} {out o o2 : hm_Out}
theorem qq_begin {d C D : Nat} (s : rS) (hR : RF s.1) (hS : SI C D s.1) : cr (d + 2) 160 [.ref 170] s (fun s2 out => MJ2 1 (fun t => t = s.1 170 1) s s2 out ∧ BGK C s s2 out) := by
  have hC := SI_C hS
  refine cr_mono (qq_begin0 (d := d) hC s hR hS.2.2.1) ?_
  rintro s2 out ⟨⟨⟨⟨z, rfl⟩, hc, hX, h⟩, hz⟩, hk⟩
  refine ⟨?_, ⟨⟨⟨z, rfl⟩, hc, hX, h⟩, hz⟩, hk⟩
  rcases h with ⟨e, _⟩ | ⟨h20, hH, h52, h55, h5, h6, h8, h9, h10⟩
  · rw [e]
    exact MJ2_same rfl rfl hR hS
  · rcases SA_CW hS.2.2.2.2 with q | ⟨_, hW⟩
    · omega
    · exact ⟨⟨_, rfl, rfl⟩, hc, RX_RF hX hR, RX_LJ2 hX, ⟨C, D, hS.1, by rw [hX 170 1 (by unfold RS; omega)]; exact hS.2.1, (hX _ _ (by unfold RS; omega)).trans hS.2.2.1, (hX _ _ (by unfold RS; omega)).trans hS.2.2.2.1, SA_begin hC hW hX h20 hH h52 h55 h5 h6 h8 h9 h10⟩, hX _ _ (by unfold RS; omega)⟩
/-- the reference's table with the circuit's rows of another -/
def emx (D : Nat) (u r : tab) : tab := fun k j => if relR k j = true ∧ 177 ≤ k ∧ k ≤ 185 then u k j else r (ph eP D k) j
theorem emx_o {u : tab} {k j : Nat} (h : k < 177 ∨ 186 ≤ k) : emx D u r k j = r k j := by
  unfold emx
  rw [if_neg (by omega), show ph eP D k = k from if_neg (fun q => by have q1 : 177 ≤ k := q.1; have q2 : k < 177 + 9 := q.2; omega)]
theorem emx_c {u : tab} {k j : Nat} (h : relR k j = true) (h2 : 177 ≤ k ∧ k ≤ 185) : emx D u r k j = u k j := if_pos ⟨h, h2⟩
theorem emx_E {u : tab} (hD : D = 177 ∨ D = 186) (hR : RF r) (hv : r 170 17 = (D : Int)) (h : ∀ k j, relR k j = true → 177 ≤ k ∧ k ≤ 185 → inR (ph eP D k) j → r (ph eP D k) j = u k j) : EEr eP D (emx D u r) r := by
  refine ⟨hD, hR, hv, fun k j w => ⟨ok_E w, fun q => ?_⟩, trivial⟩
  unfold emx
  by_cases a : relR k j = true ∧ 177 ≤ k ∧ k ≤ 185
  · rw [if_pos a]
    exact h k j a.1 a.2 q
  · rw [if_neg a]
theorem ph_E (hD : D = 177 ∨ D = 186) {k : Nat} (h : 177 ≤ k ∧ k ≤ 185) : ph eP D k = D + (k - 177) := if_pos ⟨h.1, by show k < 177 + 9; omega⟩
theorem r6_begin {d C1 D1 : Nat} (hL : LV6 n s.1) (hj : HJ4 s.1 s1.1) (hR1 : RF s1.1) (hS1 : SI C1 D1 s1.1) (hW : W6 n (fun t => wG 42 [] t) 1 s s1 out) : cr (d + 2) 160 [.ref 170] s1 (fun s2 out2 => MJ2 1 (fun t => t = s1.1 170 1) s1 s2 out2 ∧ LV6 (n + 1) s2.1) := by
  have v0 := W6_142 hW
  have m20 : s1.1 170 20 = s.1 170 20 := hj 170 20 (by omega)
  have m0 := hL.1.1.2
  refine cr_mono (qq_begin (d := d) s1 hR1 hS1) ?_
  rintro s2 out2 ⟨hq, ⟨⟨_, _, hX, hA⟩, _⟩, hk⟩
  refine ⟨hq, ?_⟩
  rcases hW with ⟨m, C, t, h1, h2, ob, z, t1, h3, h4, h5, h6⟩ | ⟨m, C, D, K, M, t, e, h1, ob, z, t1, h3, h4, h5, h6⟩
  · have h5 : wG 42 [] t = some (some (z, t1)) := h5
    rw [wG_80] at h5
    unfold wM80 at h5
    rw [if_neg (fun w => w h2)] at h5
    cases h5
    exact LV6_l hL hj hq.2.2.2.1 v0 (fun _ j hj2 => (w_get h6 (k := 144) (j := j) rfl (by omega) ⟨_, _, rfl, hj2⟩).trans (w_get h1 (k := 144) (j := j) rfl (by omega) ⟨_, _, rfl, hj2⟩).symm) (fun q => by omega)
  · refine LV6_l hL hj hq.2.2.2.1 v0 (fun q => by omega) (fun _ => ?_)
    have hE := E_mid h1.2.2.1 hj hR1
    obtain ⟨f1, f2, f3, f4, f5⟩ := WD_f h1
    have eD : D = C1 := by
      have a := hE.2.2.1
      have a : s1.1 170 17 = (D : Int) := a
      have b := hS1.2.2.1
      omega
    subst eD
    have hD : D = 177 ∨ D = 186 := hE.1
    rcases hA with ⟨_, q⟩ | ⟨h20, _, h52, h55, p5, p6, p8, p9, _⟩
    · omega
    obtain ⟨k1, k2, k3⟩ := hk h20
    have h5 : wG 42 [] t = some (some (z, t1)) := h5
    rw [wG_80] at h5
    unfold wM80 at h5
    obtain ⟨t9, w1, w2⟩ := rs_e t
    rw [if_pos (by omega), w1, bo_s] at h5
    cases h5
    have hst := h1.2.2.2.2.1.1
    have hb := h1.2.2.2.2.1.2.2.1
    have fr := w2.2.2.2.2.2
    have x5 : s1.1 D 2 = K.2.1 177 2 := (hj D 2 (by omega)).trans h1.2.2.2.2.2.2.1
    refine ⟨C, D, K, M, _, emx D e s2.1, WD_mk h1 hj hq.2.2.2.1 hq.2.2.1 h6 (emx_E hD hq.2.2.1 ((hq.2.2.2.1 170 17 (by omega)).trans hS1.2.2.1) (fun k j a b i => ?_)) (bt_0 (t := t) (fun k j w => (fr k j (by omega) (by omega)).trans (hst k j w)) (ST_e h1.2.2.2.2.1.2.1 (fun k j w => ?_)) (fun j => ?_) w2 ?_ ?_ ?_ ?_ ?_ ?_ (fun j hj => ?_) (fun a ha j hj => ?_) (fun j hj => ?_))⟩
    · have ep := ph_E hD b
      rw [ep] at i ⊢
      rw [hq.2.2.2.1 _ _ (by omega)]
      have u : relE k j = true := by
        unfold relR at a
        unfold relE
        rw [if_neg (by omega)] at a ⊢
        by_cases z : k = 177
        · rw [if_pos z] at a ⊢
          simp only [Bool.or_eq_true, beq_iff_eq] at a ⊢
          omega
        · rw [if_neg z] at a ⊢
          rw [if_pos (by omega)]
          simp only [Bool.or_eq_true, beq_iff_eq, decide_eq_true_eq] at a ⊢
          omega
      have v := (hE.2.2.2.1 k j u).2
      rw [ep] at v
      exact v i
    · rcases w with w | w | w <;> (rw [w]; exact emx_c rfl (by omega))
    · rw [fr 144 j (by omega) (by omega)]
      exact Int.le_trans (hb j) (by omega)
    · rw [emx_o (by omega)]; exact h52
    · rw [emx_o (by omega)]; exact h55
    · rw [emx_o (by omega), p5]; exact x5
    · rw [emx_o (by omega)]; exact p6
    · rw [emx_o (by omega)]; exact p8
    · rw [emx_o (by omega)]; exact p9
    · rw [emx_o (by omega)]; exact k1 j hj
    · rw [emx_o (by omega)]; exact k2 a ha j hj
    · rw [emx_o (by omega)]; exact k3 j hj
end COMP6
