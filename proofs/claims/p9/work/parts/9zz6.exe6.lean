/-! A value is handed over: one turn of our own Work, two turns of the parts machine. -/
section EXE6
variable {t t1 t2 z : tab} {a b p : Nat} {u v x : Int}
theorem tw_k {y w : Int} : ∀ q ∈ (twx z y w).1, q.1 = 145 ∧ q.2.1 = y.toNat ∨ q.1 = 142 ∧ q.2.1 = 13 := fun q hq => by
  unfold twx at hq
  split at hq
  · rcases List.mem_cons.mp hq with e | e
    · rw [e]
      exact .inl ⟨rfl, rfl⟩
    · split at e
      · simp only [List.mem_cons, List.not_mem_nil, or_false] at e
        rw [e]
        exact .inr ⟨rfl, rfl⟩
      · cases e
  · cases hq
theorem tw_e {s2 : tab} {y w : Int} (h1 : s2 99 12 = z 99 12) (h2 : s2 143 y.toNat = z 143 y.toNat) : twx s2 y w = twx z y w := by
  unfold twx
  rw [h1, h2]
theorem ap_o {ws : wrl} {s : tab} {k j : Nat} (h : ∀ w ∈ ws, w.1 ≠ k) : apw ws s k j = s k j := apw_o _ _ _ _ (fun w hw e => h w hw e.1)
theorem psw_o {y : Int} {k j : Nat} (h1 : k ≠ 147) (h2 : k ≠ 142) : psw t y k j = t k j := by
  unfold psw
  split
  · exact (if_neg (fun q => h2 q.1)).trans (if_neg (fun q => h1 q.1))
  · rfl
theorem tlw_o {y w : Int} {k j : Nat} (h1 : k ≠ 147) (h2 : k ≠ 142) (h3 : k ≠ 145) : tlw t y w k j = t k j := by
  unfold tlw
  by_cases e : 0 ≤ y ∧ y < t 99 12
  · rw [if_pos e]
    exact (psw_o h1 h2).trans ((if_neg (fun q => h2 q.1)).trans (if_neg (fun q => h3 q.1)))
  · rw [if_neg e]
theorem ho_e (hz : SZx (zp t)) (hk : t 100 b = 407) (hab : a ≠ b) (h3 : t 103 b ≠ (b : Int)) (h3a : t 103 b ≠ (a : Int)) (ha : (a : Int) < t 99 12) (hb : (b : Int) < t 99 12) (hg : 0 ≤ t 102 b ∧ t 102 b < 30) (h13 : t 142 13 = 0 ∨ t 142 13 = 1) {K L : Nat} (hK : K = 152 ∨ K = 153) :
    (zp (up2 (how t a b v) K L (-1)) = apw (Wrx (apw ((hox (zp t) a b v).1 ++ [(K, L, -1)]) (zp t)) b).1 (apw ((hox (zp t) a b v).1 ++ [(K, L, -1)]) (zp t)) ∧ (Wrx (apw ((hox (zp t) a b v).1 ++ [(K, L, -1)]) (zp t)) b).2 = pux (t 143 b)) ∧ (hox (zp t) a b v).2 = pux (b : Int) ++ pux (t 143 a) ∧ EXR t (up2 (how t a b v) K L (-1)) (asx (zp t) (t 102 b) (vax t (t 103 b)) v ++ (twx (zp t) a 0).1 ++ (twx (zp t) b 0).1 ++ [(K, L, -1)], pux (t 143 a) ++ pux (t 143 b)) := by
  obtain ⟨z, hz0⟩ : ∃ z, z = zp t := ⟨_, rfl⟩
  have zo : ∀ k j, k ≠ 147 → k ≠ 142 → z k j = t k j := fun k j h1 h2 => by
    rw [hz0]
    exact zp_o (by omega)
  have z7 : ∀ j, z 147 j = 0 := fun j => by rw [hz0]; exact if_pos (.inl rfl)
  rw [← hz0]
  have pa : (twx z (a : Int) 0).2 = pux (t 143 a) := by
    unfold twx
    rw [if_pos ⟨Int.natCast_nonneg _, by rw [zo 99 12 (by omega) (by omega)]; exact ha⟩, Int.toNat_natCast, zo 143 a (by omega) (by omega)]
  have pb : (twx z (b : Int) 0).2 = pux (t 143 b) := by
    unfold twx
    rw [if_pos ⟨Int.natCast_nonneg _, by rw [zo 99 12 (by omega) (by omega)]; exact hb⟩, Int.toNat_natCast, zo 143 b (by omega) (by omega)]
  have hho : hox z (a : Int) (b : Int) v = ([(145, b, v), (147, b, 1)] ++ (twx z (a : Int) 0).1, pux (b : Int) ++ pux (t 143 a)) := by
    unfold hox
    rw [if_pos ⟨Int.natCast_nonneg _, by rw [zo 99 12 (by omega) (by omega)]; exact hb⟩, Int.toNat_natCast]
    unfold cax
    rw [pa]
  rw [hho]
  dsimp only
  obtain ⟨lv, has⟩ : ∃ lv, lv = asx z (t 102 b) (vax t (t 103 b)) v := ⟨_, rfl⟩
  obtain ⟨wa, hwa⟩ : ∃ wa, wa = (twx z (a : Int) 0).1 := ⟨_, rfl⟩
  obtain ⟨wb, hwb⟩ : ∃ wb, wb = (twx z (b : Int) 0).1 := ⟨_, rfl⟩
  have ka : ∀ w ∈ lv, w.1 = 148 ∨ w.1 = 149 := fun w hw => by rw [has] at hw; exact as_k w hw
  have kwa : ∀ w ∈ wa, w.1 = 145 ∧ w.2.1 = a ∨ w.1 = 142 ∧ w.2.1 = 13 := fun w hw => by
    rw [hwa] at hw
    have := tw_k w hw
    rw [Int.toNat_natCast] at this
    exact this
  have kwb : ∀ w ∈ wb, w.1 = 145 ∧ w.2.1 = b ∨ w.1 = 142 ∧ w.2.1 = 13 := fun w hw => by
    rw [hwb] at hw
    have := tw_k w hw
    rw [Int.toNat_natCast] at this
    exact this
  have hEX : EXR t (up2 (how t a b v) K L (-1)) (lv ++ wa ++ wb ++ [(K, L, -1)], pux (t 143 a) ++ pux (t 143 b)) := by
    have e1 : how t (a : Int) (b : Int) v = tlw (tlw (asw t (t 102 b) (vax t (t 103 b)) v) a 0) b 0 := by
      unfold how
      rw [if_pos ⟨Int.natCast_nonneg _, hb⟩, Int.toNat_natCast]
    rw [e1]
    obtain ⟨t3, ht3⟩ : ∃ t3, t3 = asw t (t 102 b) (vax t (t 103 b)) v := ⟨_, rfl⟩
    have x1 : EXR t t3 (lv, []) := by
      rw [ht3, has, hz0]
      exact ex_as hz hg
    have o3 : ∀ k j, k ≠ 148 → k ≠ 149 → t3 k j = t k j := fun k j h1 h2 => by
      rw [ht3]
      exact as_o h1 h2
    have x2 : EXR t3 (tlw t3 a 0) (wa, pux (t 143 a)) := by
      have := ex_tl (t := t3) (p := (a : Int)) (v := 0)
      have e : twx (zp t3) (a : Int) 0 = twx z (a : Int) 0 := by
        rw [hz0]
        exact tw_e (zp_e o3 99 12 (by omega) (by omega)) (zp_e o3 143 _ (by omega) (by omega))
      rw [e] at this
      rw [hwa, ← pa]
      exact this
    obtain ⟨t4, ht4⟩ : ∃ t4, t4 = tlw t3 (a : Int) 0 := ⟨_, rfl⟩
    have o4 : ∀ k j, k = 99 ∨ k = 143 → t4 k j = t3 k j := fun k j h => by
      rw [ht4]
      exact tlw_o (by omega) (by omega) (by omega)
    have x3 : EXR t4 (tlw t4 b 0) (wb, pux (t 143 b)) := by
      have := ex_tl (t := t4) (p := (b : Int)) (v := 0)
      have e : twx (zp t4) (b : Int) 0 = twx z (b : Int) 0 := by
        rw [hz0]
        refine tw_e ?_ ?_
        · show t4 99 12 = t 99 12
          rw [o4 99 12 (by omega), o3 99 12 (by omega) (by omega)]
        · show t4 143 _ = t 143 _
          rw [o4 143 _ (by omega), o3 143 _ (by omega) (by omega)]
      rw [e] at this
      rw [hwb, ← pb]
      exact this
    rw [← ht3, ← ht4]
    rw [← ht4] at x2
    have := EX_app (EX_app (EX_app x1 x2) x3) (EX_w (t := tlw t4 (b : Int) 0) (k := K) (j := L) (v := -1) (by omega) (by omega))
    have e2 : cax (cax (cax (lv, []) (wa, pux (t 143 a))) (wb, pux (t 143 b))) ([(K, L, -1)], []) = (lv ++ wa ++ wb ++ [(K, L, -1)], pux (t 143 a) ++ pux (t 143 b)) := by
      unfold cax
      dsimp only
      rw [List.nil_append, List.append_nil]
    rw [e2] at this
    exact this
  refine ⟨⟨?_, ?_⟩, rfl, by rw [has, hwa, hwb] at hEX; exact hEX⟩
  all_goals
    obtain ⟨z1, hz1⟩ : ∃ z1, z1 = up2 (apw wa z) K L (-1) := ⟨_, rfl⟩
    have o1 : ∀ k j, k ≠ 145 → k ≠ 142 → k ≠ K → z1 k j = z k j := fun k j h1 h2 h3 => by
      rw [hz1]
      exact (if_neg (fun q => h3 q.1)).trans (ap_o (fun w hw e => by have := kwa w hw; omega))
    have s1e : apw ([(145, b, v), (147, b, 1)] ++ (twx z (a : Int) 0).1 ++ [(K, L, -1)]) z = up2 (up2 z1 145 b v) 147 b 1 := by
      rw [← hwa, apw_app, apw_app, apw_cons, apw_cons, apw_nil, apw_cons, apw_nil]
      dsimp only
      rw [apw_up _ _ _ _ _ (fun w hw e => by have := kwa w hw; omega), apw_up _ _ _ _ _ (fun w hw e => by have := kwa w hw; omega), up_cmx (k := 147) (by omega), up_cmx (k := 145) (by omega), hz1]
    rw [s1e]
    have e5 : z1 145 (z 103 b).toNat = z 145 (z 103 b).toNat ∨ z 103 b < 0 := by
      by_cases q : 0 ≤ z 103 b
      · refine .inl ?_
        rw [hz1]
        refine (if_neg (by omega)).trans (apw_o _ _ _ _ (fun w hw e => ?_))
        have := kwa w hw
        rw [zo 103 b (by omega) (by omega)] at q e
        omega
      · exact .inr (by omega)
    have F := fg_e (z := z1) (b := b) (v := v) (by rw [o1 100 b (by omega) (by omega) (by omega), zo 100 b (by omega) (by omega)]; exact hk) (by rw [o1 147 b (by omega) (by omega) (by omega)]; exact z7 b) (by rw [o1 103 b (by omega) (by omega) (by omega), zo 103 b (by omega) (by omega)]; exact h3) (by rw [o1 99 12 (by omega) (by omega) (by omega), zo 99 12 (by omega) (by omega)]; exact hb)
    have ew : twx z1 (b : Int) 0 = twx z (b : Int) 0 := tw_e (o1 99 12 (by omega) (by omega) (by omega)) (o1 143 _ (by omega) (by omega) (by omega))
    have ev : vax z1 (z1 103 b) = vax t (t 103 b) := by
      rw [o1 103 b (by omega) (by omega) (by omega)]
      unfold vax
      rw [o1 99 12 (by omega) (by omega) (by omega), zo 99 12 (by omega) (by omega), ← zo 103 b (by omega) (by omega)]
      split
      · rename_i q
        rcases e5 with e5 | e5
        · rw [e5, zo 145 _ (by omega) (by omega)]
        · omega
      · rfl
    have ea : asx z1 (z1 102 b) (vax z1 (z1 103 b)) v = lv := by
      rw [ev, o1 102 b (by omega) (by omega) (by omega), zo 102 b (by omega) (by omega), has]
      unfold asx plx
      rw [o1 110 _ (by omega) (by omega) (by omega), o1 111 _ (by omega) (by omega) (by omega)]
    rw [ew, ea, ← hwb] at F
  · rw [F.1, (hEX.1 h13).1, ← hz0]
    dsimp only
    rw [apw_app, apw_app, apw_app, apw_cons, apw_nil, hz1]
    dsimp only
    rw [apw_up lv _ _ _ _ (fun w hw e => by have := ka w hw; omega), apw_up wb _ _ _ _ (fun w hw e => by have := kwb w hw; omega), apw_comm lv wa _ (fun w hw q hq e => by have := ka w hw; have := kwa q hq; omega)]
  · exact F.2.trans pb
end EXE6
