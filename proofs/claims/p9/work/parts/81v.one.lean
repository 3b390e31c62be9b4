/-! One instruction, whichever it is. -/
set_option maxHeartbeats 4000000 in
set_option maxRecDepth 100000 in
theorem p_one {d C b na : Nat} {F : Ph} {G : Nat → gB} {own : Nat → Nat → Prop} {s : rS} (hC : C = 177 ∨ C = 186) (hR : RF s.1) (hM : MC C F na s.1) (hI : RI F s.1 G own) (hb7 : b < 700) (hb : (b : Int) < s.1 170 55) (hg : s.1 206 b = 1) (hst : s.1 170 52 = 2) (hsteps : 0 ≤ s.1 170 53 ∧ s.1 170 53 ≤ s.1 170 54 ∧ s.1 170 54 ≤ 20000) : cr (d + 6) 165 [.ref 170, vi (b : Int)] s (ON F G b s) := by
  have hB := (hI.2.1 b ⟨hb, by omega⟩).1
  rw [hg] at hB
  obtain ⟨p, hp5, hF⟩ := hB.2.2.2.2.1
  have h8 := hB.2.2.2.2.2.1
  have he : eo 1 = 0 := by unfold eo; simp
  rw [he] at h8
  have hrm := (hB.2.1 (bn (G b)) (Nat.le_refl _)).2.1
  have ht0 : s.1 208 b = (bb (G b) (bn (G b)) : Int) + bh (G b) (bn (G b)) ∧ 0 ≤ s.1 208 b ∧ s.1 208 b ≤ 1000 := ⟨by omega, by omega, by omega⟩
  obtain ⟨k, hk, hik⟩ := hM.2.1 p _ _ _ hF
  refine cr_of (M := tb_M165) rfl (Nat.le_of_ble_eq_true rfl) ?_
  show wr (d + 5) tb_M165 0 [(0, .ref 170), (1, vi ((b : Int)))] [] s _
  match k, hk, hik with
  | 0, hk, hik => exact w1_0 hC hR hM hI hb7 hb hg hst hsteps hp5 ht0 hrm hk hik
  | 1, hk, hik => exact w1_1 hC hR hM hI hb7 hb hg hst hsteps hp5 ht0 hrm hk hik
  | 2, hk, hik => exact w1_2 hC hR hM hI hb7 hb hg hst hsteps hp5 ht0 hrm hk hik
  | 3, hk, hik => exact w1_3 hC hR hM hI hb7 hb hg hst hsteps hp5 ht0 hrm hk hik
  | 4, hk, hik => exact w1_4 hC hR hM hI hb7 hb hg hst hsteps hp5 ht0 hrm hk hik
  | 5, hk, hik => exact w1_5 hC hR hM hI hb7 hb hg hst hsteps hp5 ht0 hrm hk hik
  | 6, hk, hik => exact w1_6 hC hR hM hI hb7 hb hg hst hsteps hp5 ht0 hrm hk hik
  | 7, hk, hik => exact w1_7 hC hR hM hI hb7 hb hg hst hsteps hp5 ht0 hrm hk hik
  | 8, hk, hik => exact w1_8 hC hR hM hI hb7 hb hg hst hsteps hp5 ht0 hrm hk hik
  | 9, hk, hik => exact w1_9 hC hR hM hI hb7 hb hg hst hsteps hp5 ht0 hrm hk hik
  | 10, hk, hik => exact w1_10 hC hR hM hI hb7 hb hg hst hsteps hp5 ht0 hrm hk hik
  | 11, hk, hik => exact w1_11 hC hR hM hI hb7 hb hg hst hsteps hp5 ht0 hrm hk hik
  | 12, hk, hik => exact w1_12 hC hR hM hI hb7 hb hg hst hsteps hp5 ht0 hrm hk hik
  | 13, hk, hik => exact w1_13 hC hR hM hI hb7 hb hg hst hsteps hp5 ht0 hrm hF hk hik
  | 14, hk, hik => exact w1_14 hC hR hM hI hb7 hb hg hst hsteps hp5 ht0 hrm hF hk hik
  | 15, hk, hik => exact w1_15 hC hR hM hI hb7 hb hg hst hsteps hp5 ht0 hrm hF hk hik
  | 16, hk, hik => exact w1_16 hC hR hM hI hb7 hb hg hst hsteps hp5 ht0 hrm hF hk hik
  | 17, hk, hik => exact w1_17 hC hR hM hI hb7 hb hg hst hsteps hp5 ht0 hrm hk hik
  | 18, hk, hik => exact w1_18 hC hR hM hI hb7 hb hg hst hsteps hp5 ht0 hrm hk hik
  | 19, hk, hik => exact w1_19 hC hR hM hI hb7 hb hg hst hsteps hp5 ht0 hrm hk hik
  | 20, hk, hik => exact w1_20 hC hR hM hI hb7 hb hg hst hsteps hp5 ht0 hrm hk hik
  | 21, hk, hik => exact w1_21 hC hR hM hI hb7 hb hg hst hsteps hp5 ht0 hrm hk hik
  | k + 22, hk, hik => exact False.elim hik
