/-! A turn of our own Work: E, calls, IF and the others. -/
section EXE2
variable {t t1 t2 : tab} {A B W : wrl × List Int} {p : Nat} {u : Int}
theorem ex_E (hz : SZx (zp t)) (hk : t 100 p = 2 ∨ t 100 p = 400 ∨ t 100 p = 401 ∨ t 100 p = 402 ∨ t 100 p = 403) (h0 : 0 ≤ u) : ∃ t2, wG 23 [(p : Int), u] t = some (some (0, t2)) ∧ EXR t t2 (ewx (zp t) p u) := by
  rw [wG_87]
  unfold wM87
  rw [Int.toNat_natCast]
  by_cases e1 : t 100 p = 2
  · rw [if_pos e1, show ewx (zp t) p u = twx (zp t) p (t 101 p) from if_pos e1]
    exact ⟨_, rfl, ex_tl⟩
  rw [if_neg e1]
  by_cases e2 : t 100 p = 400
  · rw [if_pos e2, show ewx (zp t) p u = twx (zp t) p (vrx t (t 101 p)) from (if_neg e1).trans (if_pos e2)]
    exact ⟨_, rfl, ex_tl⟩
  rw [if_neg e2]
  by_cases e3 : t 100 p = 403
  · rw [if_pos e3, show ewx (zp t) p u = _ from (if_neg e1).trans ((if_neg e2).trans (if_pos e3))]
    by_cases e4 : 2 ≤ u
    · rw [if_pos e4, if_neg (show ¬ u < 2 by omega)]
      exact ⟨_, rfl, ex_tl⟩
    · rw [if_neg e4, if_pos (show u < 2 by omega)]
      by_cases e5 : u = 0
      · rw [if_neg (fun q => q e5), if_pos e5]
        exact ⟨_, rfl, ex_ak⟩
      · rw [if_pos e5, if_neg e5]
        exact ⟨_, rfl, ex_ak⟩
  rw [if_neg e3, show ewx (zp t) p u = _ from (if_neg e1).trans ((if_neg e2).trans (if_neg e3))]
  by_cases e5 : u = 0
  · rw [if_neg (fun q => q e5), if_pos e5]
    exact ⟨_, rfl, ex_ak⟩
  · rw [if_pos e5, if_neg e5]
    by_cases e6 : t 100 p = 401
    · rw [if_neg (fun q => q e6), if_pos (show zp t 100 p = 401 from e6), ← it_z hz]
      exact ⟨_, rfl, ex_tl⟩
    · rw [if_pos e6, if_neg (show ¬ zp t 100 p = 401 from e6)]
      exact ⟨_, rfl, ex_tl⟩
theorem as_o {g x v : Int} {k j : Nat} (h1 : k ≠ 148) (h2 : k ≠ 149) : asw t g x v k j = t k j := by
  unfold asw
  split
  · exact if_neg (fun q => h1 q.1)
  · split
    · exact if_neg (fun q => h2 q.1)
    · rfl
theorem as_x {s s2 : tab} (h : ∀ k j, k ≠ 148 → k ≠ 149 → s2 k j = s k j) {g x v : Int} : asx s2 g x v = asx s g x v := by
  unfold asx plx
  rw [h 110 _ (by omega) (by omega), h 111 _ (by omega) (by omega)]
theorem pw_x {s s2 : tab} (h : ∀ k j, k ≠ 148 → k ≠ 149 → s2 k j = s k j) {f : Int} : ∀ (n : Nat) (i x : Int), pwx s2 f n i x = pwx s f n i x
  | 0, _, _ => rfl
  | n + 1, i, x => by
    show asx s2 (f + i) 0 (vax s2 x) ++ pwx s2 f n (i + 1) (flx s2 x) = asx s (f + i) 0 (vax s x) ++ pwx s f n (i + 1) (flx s x)
    have e1 : vax s2 x = vax s x := by
      unfold vax
      rw [h 99 12 (by omega) (by omega), h 145 _ (by omega) (by omega)]
    have e2 : flx s2 x = flx s x := by
      unfold flx
      rw [h 99 12 (by omega) (by omega), h 104 _ (by omega) (by omega)]
    rw [as_x h, e1, e2, pw_x h n]
theorem zp_e (h : ∀ k j, k ≠ 148 → k ≠ 149 → t2 k j = t k j) : ∀ k j, k ≠ 148 → k ≠ 149 → zp t2 k j = zp t k j := fun k j h1 h2 => by
  unfold zp
  rw [h k j h1 h2]
theorem ex_pass {r : Int} : ∀ (m : Nat) (i x : Int) (t : tab), SZx (zp t) → 0 ≤ fpx t r → 0 ≤ i → fpx t r + i + (m : Int) ≤ 24 → ∃ t2, wG 49 [r, i + (m : Int), x, i] t = some (some (0, t2)) ∧ EXR t t2 (pwx (zp t) (fpx t r) m i x, []) ∧ ∀ k j, k ≠ 148 → k ≠ 149 → t2 k j = t k j
  | 0, i, x, t, hz, h0, h1, h2 => by
    rw [wG_98_6]
    unfold wM98_6
    rw [if_pos (by omega)]
    exact ⟨_, rfl, EX_nil, fun _ _ _ _ => rfl⟩
  | m + 1, i, x, t, hz, h0, h1, h2 => by
    have o : ∀ k j, k ≠ 148 → k ≠ 149 → asw t (fpx t r + i) 0 (vax t x) k j = t k j := fun k j q1 q2 => as_o q1 q2
    have ef : fpx (asw t (fpx t r + i) 0 (vax t x)) r = fpx t r := by
      obtain ⟨g, hg⟩ : ∃ g, g = fpx t r + i := ⟨_, rfl⟩
      rw [← hg]
      unfold fpx
      rw [as_o (by omega) (by omega)]
    have el : flx (asw t (fpx t r + i) 0 (vax t x)) x = flx t x := by
      unfold flx
      rw [o 99 12 (by omega) (by omega), o 104 _ (by omega) (by omega)]
    obtain ⟨t2, k1, k2, k3⟩ := ex_pass m (i + 1) (flx t x) (asw t (fpx t r + i) 0 (vax t x)) (fun j => by rw [zp_e o 111 j (by omega) (by omega)]; exact hz j) (by rw [ef]; exact h0) (by omega) (by rw [ef]; omega)
    rw [wG_98_6]
    unfold wM98_6
    rw [if_neg (by omega), ipl_e (by omega), el, show i + ((m + 1 : Nat) : Int) = i + 1 + (m : Int) by omega]
    refine ⟨t2, k1, ?_, fun k j q1 q2 => (k3 k j q1 q2).trans (o k j q1 q2)⟩
    rw [ef, pw_x (zp_e o)] at k2
    exact EX_app (A := (asx (zp t) (fpx t r + i) 0 (vax t x), [])) (ex_as hz (by omega)) k2
theorem ak_1 {c q : Int} (h : t2 99 12 = t 99 12) : awx (zp t2) c q = awx (zp t) c q := by
  unfold awx
  rw [show zp t2 99 12 = t2 99 12 from rfl, show zp t 99 12 = t 99 12 from rfl, h]
theorem ex_call (hz : SZx (zp t)) (hn : 0 ≤ t 103 p ∧ t 103 p ≤ 4) (hf : 0 ≤ fpx t (t 101 p) ∧ fpx t (t 101 p) + t 103 p ≤ 24) (h0 : 0 ≤ u) : ∃ t2, wG 25 [(p : Int), u] t = some (some (0, t2)) ∧ EXR t t2 (cwx (zp t) p u) := by
  rw [wG_96]
  unfold wM96
  rw [Int.toNat_natCast]
  by_cases e1 : t 103 p ≤ u
  · rw [if_pos e1]
    by_cases e2 : u = t 103 p
    · rw [if_neg (fun q => q e2), show cwx (zp t) p u = _ from (if_neg (show ¬ u < zp t 103 p from by show ¬ u < t 103 p; omega)).trans (if_pos (show u = zp t 103 p from e2))]
      obtain ⟨t2, k1, k2, k3⟩ := ex_pass (r := t 101 p) (t 103 p).toNat 0 (t 102 p) t hz hf.1 (by omega) (by omega)
      have e98 : wG 24 [t 101 p, t 102 p, t 103 p] t = some (some (0, t2)) := by
        rw [wG_98]
        unfold wM98
        rw [show (0 : Int) + ((t 103 p).toNat : Int) = t 103 p by omega] at k1
        exact k1
      rw [e98, bo_s]
      have eb : bdx t2 (t 101 p) = bdx t (t 101 p) := by
        unfold bdx
        rw [k3 114 _ (by omega) (by omega)]
      rw [eb]
      refine ⟨_, rfl, ?_⟩
      refine EX_app (A := (pwx (zp t) (fpx t (t 101 p)) (t 103 p).toNat 0 (t 102 p) ++ [(146, p, bdx t (t 101 p))], [])) (EX_app (A := (pwx (zp t) (fpx t (t 101 p)) (t 103 p).toNat 0 (t 102 p), [])) k2 (EX_w (k := 146) (by omega) (by omega))) ?_
      have := ex_ak (t := up2 t2 146 p (bdx t (t 101 p))) (c := bdx t (t 101 p)) (p := (p : Int))
      rw [ak_1 (t := t) (show (up2 t2 146 p (bdx t (t 101 p))) 99 12 = t 99 12 from (if_neg (by omega)).trans (k3 99 12 (by omega) (by omega)))] at this
      exact this
    · rw [if_pos e2, show cwx (zp t) p u = _ from (if_neg (show ¬ u < zp t 103 p from by show ¬ u < t 103 p; omega)).trans (if_neg (show ¬ u = zp t 103 p from e2))]
      refine ⟨_, rfl, ?_⟩
      refine EX_app (A := ([(146, p, flx t (t 146 p))], [])) (EX_w (k := 146) (by omega) (by omega)) ?_
      exact ex_ot
  · rw [if_neg e1, show cwx (zp t) p u = _ from if_pos (show u < zp t 103 p from by show u < t 103 p; omega)]
    by_cases e2 : u = 0
    · rw [if_neg (fun q => q e2), if_pos e2]
      refine ⟨_, rfl, ?_⟩
      refine EX_app (A := ([(146, p, t 102 p)], [])) (EX_w (k := 146) (by omega) (by omega)) ?_
      exact ex_ak
    · rw [if_pos e2, if_neg e2]
      refine ⟨_, rfl, ?_⟩
      refine EX_app (A := ([(146, p, flx t (t 146 p))], [])) (EX_w (k := 146) (by omega) (by omega)) ?_
      exact ex_ak
theorem ex_brs : ∀ (m : Nat) (i x : Int) (t : tab), ∃ t2, wG 50 [(p : Int), i + (m : Int), x, i] t = some (some (0, t2)) ∧ EXR t t2 (bwx (zp t) p m x)
  | 0, i, x, t => by
    rw [wG_110_28]
    unfold wM110_28
    rw [if_pos (by omega)]
    exact ⟨_, rfl, EX_nil⟩
  | m + 1, i, x, t => by
    have h12 : akw t x (p : Int) 99 12 = t 99 12 := by
      unfold akw psw
      split
      · split
        · exact (if_neg (by omega)).trans ((if_neg (by omega)).trans ((if_neg (by omega)).trans (if_neg (by omega))))
        · exact (if_neg (by omega)).trans (if_neg (by omega))
      · rfl
    have h104 : ∀ j, akw t x (p : Int) 104 j = t 104 j := fun j => by
      unfold akw psw
      split
      · split
        · exact (if_neg (by omega)).trans ((if_neg (by omega)).trans ((if_neg (by omega)).trans (if_neg (by omega))))
        · exact (if_neg (by omega)).trans (if_neg (by omega))
      · rfl
    have el : flx (akw t x (p : Int)) x = flx t x := by
      unfold flx
      rw [h12, h104]
    have eb : ∀ (m : Nat) (y : Int), bwx (zp (akw t x (p : Int))) p m y = bwx (zp t) p m y := fun m => by
      induction m with
      | zero => intro y; rfl
      | succ m ih =>
        intro y
        show cax (awx (zp (akw t x (p : Int))) y p) (bwx (zp (akw t x (p : Int))) p m (flx (zp (akw t x (p : Int))) y)) = cax (awx (zp t) y p) (bwx (zp t) p m (flx (zp t) y))
        rw [ak_1 h12, ih]
        have : flx (zp (akw t x (p : Int))) y = flx (zp t) y := by
          show flx (akw t x (p : Int)) y = flx t y
          unfold flx
          rw [h12, h104]
        rw [this]
    obtain ⟨t2, k1, k2⟩ := ex_brs m (i + 1) (flx t x) (akw t x (p : Int))
    rw [wG_110_28]
    unfold wM110_28
    rw [if_neg (by omega), el, show i + ((m + 1 : Nat) : Int) = i + 1 + (m : Int) by omega]
    refine ⟨t2, k1, ?_⟩
    rw [eb] at k2
    exact EX_app ex_ak k2
theorem rm_k {n m : Nat} (hn : n < 2147483648) (hm : 0 < m) (hm2 : m < 1000) : rmw (n : Int) (m : Int) = ((n % m : Nat) : Int) := by
  unfold rmw
  have le : n / m ≤ n := Nat.div_le_self n m
  have e : (Int32.ofInt (n : Int) / Int32.ofInt (m : Int)).toInt = ((n / m : Nat) : Int) := by
    rw [Int32.toInt_div, i32_to (by omega) (by omega), i32_to (by omega) (by omega), ← Int.ofNat_tdiv]
    obtain ⟨w, hw⟩ : ∃ w, w = n / m := ⟨_, rfl⟩
    rw [← hw] at le ⊢
    exact Int.bmod_eq_of_le (by omega) (by omega)
  have e2 : Int32.ofInt (n : Int) / Int32.ofInt (m : Int) = Int32.ofInt ((n / m : Nat) : Int) := by rw [← e, Int32.ofInt_toInt]
  have dm := Nat.div_add_mod n m
  have ml := Nat.mod_lt n hm
  have e3 : (n : Int) - ((n / m : Nat) : Int) * (m : Int) = ((n % m : Nat) : Int) := by
    have : ((n / m : Nat) : Int) * (m : Int) = ((m * (n / m) : Nat) : Int) := by rw [Int.natCast_mul, Int.mul_comm]
    rw [this]
    omega
  rw [e2, i32_mul, ← Int32.ofInt_sub, e3]
  exact i32_to (by omega) (by omega)
theorem rm_2 (h0 : 0 ≤ u ∧ u < 2147483647) : rmw u 2 ≠ 0 ↔ ¬ u % 2 = 0 := by
  obtain ⟨n, rfl⟩ : ∃ n : Nat, u = (n : Int) := ⟨u.toNat, by omega⟩
  have e : rmw (n : Int) 2 = ((n % 2 : Nat) : Int) := rm_k (m := 2) (by omega) (by omega) (by omega)
  rw [e]
  omega
theorem ex_flow (hk : ¬ (t 100 p = 2 ∨ t 100 p = 400 ∨ t 100 p = 401 ∨ t 100 p = 402 ∨ t 100 p = 403 ∨ t 100 p = 404 ∨ t 100 p = 405 ∨ t 100 p = 406 ∨ t 100 p = 407)) (h0 : 0 ≤ u ∧ u < 2147483647) (hp : t 100 p = 312 → 0 ≤ t 102 p) : ∃ t2, wG 28 [(p : Int), u] t = some (some (0, t2)) ∧ EXR t t2 (gwx (zp t) p u) := by
  rw [wG_109]
  unfold wM109
  rw [Int.toNat_natCast]
  by_cases e1 : t 100 p = 308
  · rw [if_pos e1, show gwx (zp t) p u = _ from if_pos (show zp t 100 p = 308 from e1)]
    by_cases e2 : u = 0
    · rw [if_neg (fun q => q e2), if_pos e2]
      exact ⟨_, rfl, ex_ak⟩
    · rw [if_pos e2, if_neg e2]
      by_cases e3 : vax t (t 101 p) = 0
      · rw [if_pos e3, if_neg (show ¬ vax (zp t) (zp t 101 p) ≠ 0 from fun q => q e3)]
        by_cases e4 : u = 1
        · rw [if_neg (fun q => q e4), if_pos e4]
          exact ⟨_, rfl, ex_ot⟩
        · rw [if_pos e4, if_neg e4]
          exact ⟨_, rfl, ex_ot⟩
      · rw [if_neg e3, if_pos (show vax (zp t) (zp t 101 p) ≠ 0 from e3)]
        by_cases e4 : u = 1
        · rw [if_neg (fun q => q e4), if_pos e4]
          exact ⟨_, rfl, ex_ot⟩
        · rw [if_pos e4, if_neg e4]
          exact ⟨_, rfl, ex_ot⟩
  rw [if_neg e1]
  by_cases e2 : t 100 p = 310
  · rw [if_pos e2, show gwx (zp t) p u = _ from (if_neg (show ¬ zp t 100 p = 308 from e1)).trans (if_pos (show zp t 100 p = 310 from e2))]
    by_cases e3 : u % 2 = 0
    · rw [if_neg (fun q => (rm_2 h0).mp q e3), if_pos e3]
      exact ⟨_, rfl, ex_ak⟩
    · rw [if_pos ((rm_2 h0).mpr e3), if_neg e3]
      by_cases e4 : vax t (t 101 p) = 0
      · rw [if_pos e4, if_neg (show ¬ vax (zp t) (zp t 101 p) ≠ 0 from fun q => q e4)]
        exact ⟨_, rfl, ex_ot⟩
      · rw [if_neg e4, if_pos (show vax (zp t) (zp t 101 p) ≠ 0 from e4)]
        exact ⟨_, rfl, ex_ot⟩
  rw [if_neg e2]
  by_cases e3 : t 100 p = 311
  · rw [if_pos e3, show gwx (zp t) p u = _ from (if_neg (show ¬ zp t 100 p = 308 from e1)).trans ((if_neg (show ¬ zp t 100 p = 310 from e2)).trans (if_pos (show zp t 100 p = 311 from e3)))]
    by_cases e4 : t 101 p ≤ u
    · rw [if_pos e4, if_neg (show ¬ u < zp t 101 p from by show ¬ u < t 101 p; omega)]
      exact ⟨_, rfl, ex_ot⟩
    · rw [if_neg e4, if_pos (show u < zp t 101 p from by show u < t 101 p; omega)]
      exact ⟨_, rfl, ex_ot⟩
  rw [if_neg e3]
  by_cases e4 : t 100 p = 312
  · have e5 : ¬ t 100 p = 408 := by omega
    rw [if_pos e4, show gwx (zp t) p u = _ from (if_neg (show ¬ zp t 100 p = 308 from e1)).trans ((if_neg (show ¬ zp t 100 p = 310 from e2)).trans ((if_neg (show ¬ zp t 100 p = 311 from e3)).trans ((if_neg (show ¬ zp t 100 p = 408 from e5)).trans (if_pos (show zp t 100 p = 312 from e4)))))]
    rw [wG_110]
    unfold wM110
    rw [Int.toNat_natCast]
    by_cases e6 : u = 0
    · rw [if_neg (fun q => q e6), if_pos e6]
      have hp := hp e4
      obtain ⟨t2, k1, k2⟩ := ex_brs (p := p) (t 102 p).toNat 0 (t 101 p) t
      rw [show (0 : Int) + ((t 102 p).toNat : Int) = t 102 p by omega] at k1
      rw [k1, bo_s]
      exact ⟨_, rfl, k2⟩
    · rw [if_pos e6, if_neg e6]
      by_cases e7 : u = t 102 p
      · rw [if_neg (fun q => q e7), if_pos (show u = zp t 102 p from e7), bo_s]
        exact ⟨_, rfl, ex_tl⟩
      · rw [if_pos e7, if_neg (show ¬ u = zp t 102 p from e7), bo_s]
        exact ⟨_, rfl, EX_nil⟩
  rw [if_neg e4]
  by_cases e5 : t 100 p = 408
  · rw [if_pos e5, show gwx (zp t) p u = _ from (if_neg (show ¬ zp t 100 p = 308 from e1)).trans ((if_neg (show ¬ zp t 100 p = 310 from e2)).trans ((if_neg (show ¬ zp t 100 p = 311 from e3)).trans (if_pos (show zp t 100 p = 408 from e5))))]
    by_cases e6 : u = 0
    · rw [if_neg (fun q => q e6), if_pos e6]
      exact ⟨_, rfl, EX_app (A := ([(146, p, t 101 p)], [])) (EX_w (k := 146) (by omega) (by omega)) ex_ot⟩
    · rw [if_pos e6, if_neg e6]
      exact ⟨_, rfl, EX_app (A := ([(146, p, flx t (t 146 p))], [])) (EX_w (k := 146) (by omega) (by omega)) ex_ot⟩
  rw [if_neg e5, show gwx (zp t) p u = _ from (if_neg (show ¬ zp t 100 p = 308 from e1)).trans ((if_neg (show ¬ zp t 100 p = 310 from e2)).trans ((if_neg (show ¬ zp t 100 p = 311 from e3)).trans ((if_neg (show ¬ zp t 100 p = 408 from e5)).trans (if_neg (show ¬ zp t 100 p = 312 from e4)))))]
  exact ⟨_, rfl, ex_tl⟩
end EXE2
