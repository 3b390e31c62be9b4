/-! turnTo. -/
section EXE8
variable {t t1 t2 ts z : tab} {a b p : Nat} {u v x : Int} {Q : Nat → Nat} {act : Nat → Prop} {cx : Nat → Cxx} {anc : Nat → Nat → Prop}
theorem tu_E (hk : ts 100 p = 2 ∨ ts 100 p = 400 ∨ ts 100 p = 401 ∨ ts 100 p = 402 ∨ ts 100 p = 403) : wG 29 [(p : Int)] ts = bo (wG 23 [(p : Int), ts 144 p] (up2 ts 144 p (ipl (ts 144 p) 1))) fun _ t3 => some (some (0, t3)) := by
  rw [wG_86]
  unfold wM86
  rw [Int.toNat_natCast]
  rcases hk with k | k | k | k | k
  · rw [if_pos k]
  · rw [if_neg (by omega), if_pos k]
  · rw [if_neg (by omega), if_neg (by omega), if_pos k]
  · rw [if_neg (by omega), if_neg (by omega), if_neg (by omega), if_pos k]
  · rw [if_neg (by omega), if_neg (by omega), if_neg (by omega), if_neg (by omega), if_pos k]
theorem tu_C (k : ts 100 p = 404) : wG 29 [(p : Int)] ts = bo (wG 25 [(p : Int), ts 144 p] (up2 ts 144 p (ipl (ts 144 p) 1))) fun _ t3 => some (some (0, t3)) := by
  rw [wG_86]
  unfold wM86
  rw [Int.toNat_natCast, if_neg (by omega), if_neg (by omega), if_neg (by omega), if_neg (by omega), if_neg (by omega), if_pos k]
theorem tu_M (hk : ts 100 p = 405 ∨ ts 100 p = 406 ∨ ts 100 p = 407) : wG 29 [(p : Int)] ts = bo (wG 26 [(p : Int), ts 144 p] (up2 ts 144 p (ipl (ts 144 p) 1))) fun _ t3 => some (some (0, t3)) := by
  rw [wG_86]
  unfold wM86
  rw [Int.toNat_natCast, if_neg (by omega), if_neg (by omega), if_neg (by omega), if_neg (by omega), if_neg (by omega), if_neg (by omega)]
  rcases hk with k | k | k
  · rw [if_pos k]
  · rw [if_neg (by omega), if_pos k]
  · rw [if_neg (by omega), if_neg (by omega), if_pos k]
theorem tu_G (hk : ¬ (ts 100 p = 2 ∨ ts 100 p = 400 ∨ ts 100 p = 401 ∨ ts 100 p = 402 ∨ ts 100 p = 403 ∨ ts 100 p = 404 ∨ ts 100 p = 405 ∨ ts 100 p = 406 ∨ ts 100 p = 407)) : wG 29 [(p : Int)] ts = bo (wG 28 [(p : Int), ts 144 p] (up2 ts 144 p (ipl (ts 144 p) 1))) fun _ t3 => some (some (0, t3)) := by
  rw [wG_86]
  unfold wM86
  rw [Int.toNat_natCast, if_neg (by omega), if_neg (by omega), if_neg (by omega), if_neg (by omega), if_neg (by omega), if_neg (by omega), if_neg (by omega), if_neg (by omega), if_neg (by omega)]
theorem ho_f {a b K L : Nat} (hk : z 100 b = 407) (hb : (b : Int) < z 99 12) (hK : K = 152 ∨ K = 153) : FGx (apw ((hox z a b v).1 ++ [(K, L, -1)]) z) b := by
  have e : (hox z (a : Int) (b : Int) v).1 = [(145, b, v), (147, b, 1)] ++ (twx z (a : Int) 0).1 := by
    unfold hox
    rw [if_pos ⟨Int.natCast_nonneg _, hb⟩, Int.toNat_natCast]
    rfl
  rw [e, apw_app, apw_app, apw_cons, apw_cons, apw_nil, apw_cons, apw_nil]
  dsimp only
  refine ⟨?_, ?_⟩
  · rw [show ∀ q : tab, up2 q K L (-1) 100 b = q 100 b from fun q => if_neg (by omega), ap_o (fun w hw e => by have := tw_k w hw; omega)]
    exact (if_neg (by omega)).trans ((if_neg (by omega)).trans hk)
  · rw [show ∀ q : tab, up2 q K L (-1) 147 b = q 147 b from fun q => if_neg (by omega), ap_o (fun w hw e => by have := tw_k w hw; omega), up_self]
    decide
theorem po_f {p : Nat} (hk : z 100 p = 407) (hx : 8 ≤ x ∧ x < 12) (hs : 0 < z (qin x) 2) : FGx (apw (rwx z p x).1 z) p := by
  have hq : qin x ≠ 100 ∧ qin x ≠ 147 := by unfold qin; omega
  unfold rwx
  rw [if_neg (by omega), if_pos hx.1, if_pos hs]
  dsimp only
  rw [apw_cons, apw_cons, apw_cons, apw_cons, apw_nil]
  dsimp only
  refine ⟨?_, ?_⟩
  · exact (if_neg (by omega)).trans ((if_neg (by omega)).trans ((if_neg (fun q => hq.1 q.1.symm)).trans ((if_neg (fun q => hq.1 q.1.symm)).trans hk)))
  · rw [up_self]
    decide
theorem mv_407 {t : tab} (k : t 100 p = 407) (h0 : 0 ≤ u ∧ u < 2147483647) (hs : sgu t p u ≠ 0) : wG 26 [(p : Int), u] t = bo (wG 22 [(p : Int), t 101 p] t) fun _ t3 => some (some (0, t3)) := by
  have es : ipl u 1 = u + 1 := ipl_e (by omega)
  have hS : sgu t p u = (if t 103 p < 0 then u + 1 else u) := rfl
  rw [wG_103]
  unfold wM103
  rw [Int.toNat_natCast, es]
  by_cases e : 0 ≤ t 103 p
  · rw [if_neg (show ¬ t 103 p < 0 by omega)] at hS
    rw [if_pos e, if_pos (show t 100 p ≠ 406 by omega), if_pos (by omega), if_neg (fun q => q k)]
  · rw [if_neg e, if_pos (show t 100 p ≠ 406 by omega), if_pos (by omega), if_neg (fun q => q k)]
theorem pux1 {b : Nat} {r : Int} (h : (b : Int) < 2000) : (pux (b : Int)).count r = if r = (b : Int) then 1 else 0 := by
  unfold pux
  rw [if_pos ⟨Int.natCast_nonneg _, h⟩, List.count_cons, List.count_nil]
  simp only [beq_iff_eq]
  by_cases e : r = (b : Int)
  · rw [if_pos e.symm, if_pos e]
  · rw [if_neg (fun q => e q.symm), if_neg e]
/-- a value is handed over -/
def HOx (s : tab) (p : Nat) : Prop := ¬ FGx s p ∧ (s 100 p = 406 ∧ trn s p ≠ 0 ∧ s 101 p < 8 ∧ 0 ≤ s 153 (s 101 p).toNat ∨ s 100 p = 407 ∧ sgu s p (trn s p) ≠ 0 ∧ (s 101 p < 8 ∧ 0 ≤ s 152 (s 101 p).toNat ∨ 8 ≤ s 101 p ∧ 0 < s (qin (s 101 p)) 2))
/-- seen by the parts machine: one turn -/
def T1x (z : tab) (p : Nat) (ts t2 : tab) : Prop := zp t2 = apw (Wrx z p).1 z ∧ ∀ l, SKx ts l → l.length + (Wrx z p).2.length ≤ 2000 → SKx t2 ((Wrx z p).2.reverse ++ l)
/-- two turns, the second of b -/
def T2x (z : tab) (p : Nat) (ts t2 : tab) : Prop := ∃ b : Nat, 0 < (Wrx z p).2.count (b : Int) ∧ FGx (apw (Wrx z p).1 z) b ∧ 0 ≤ apw (Wrx z p).1 z 144 b ∧ zp t2 = apw (Wrx (apw (Wrx z p).1 z) b).1 (apw (Wrx z p).1 z) ∧ ∃ ps : List Int, (∀ r : Int, ps.count r + (if r = (b : Int) then 1 else 0) = (Wrx z p).2.count r + (Wrx (apw (Wrx z p).1 z) b).2.count r) ∧ ∀ l, SKx ts l → l.length + ps.length ≤ 2000 → SKx t2 (ps.reverse ++ l)
theorem ex_turn (h : JGx (zp t) Q act cx anc) (hp : 0 < Q p) (hb4 : t 144 p < 2147483646) (hts : zp ts = up2 (zp t) 144 p (trn (zp t) p)) (h13 : ts 142 13 = 0 ∨ ts 142 13 = 1) (hqs : QBx ts) : ∃ t2, wG 29 [(p : Int)] ts = some (some (0, t2)) ∧ (t2 142 13 = 0 ∨ t2 142 13 = 1) ∧ (t2 142 14 = ts 142 14 ∧ t2 142 15 = ts 142 15) ∧ (T1x (zp t) p ts t2 ∧ ¬ HOx (zp t) p ∨ T2x (zp t) p ts t2 ∧ HOx (zp t) p) := by
  obtain ⟨z, hz0⟩ : ∃ z, z = zp t := ⟨_, rfl⟩
  have z7 : ∀ j, z 147 j = 0 := fun j => by rw [hz0]; exact if_pos (.inl rfl)
  have b4 : z 144 p < 2147483646 := by rw [hz0]; exact hb4
  rw [← hz0] at h hts ⊢
  obtain ⟨u, hu⟩ : ∃ u, u = trn z p := ⟨_, rfl⟩
  have hu0 : 0 ≤ u ∧ u < 2147483646 := by
    rw [hu]
    unfold trn
    split <;> omega
  rw [← hu] at hts
  have sk : ∀ k j, k ≠ 142 → k ≠ 147 → k ≠ 144 → ts k j = z k j := fun k j h1 h2 h3 => by
    have e : zp ts k j = ts k j := zp_o (by omega)
    rw [← e, hts]
    exact if_neg (fun q => h3 q.1)
  have s4 : ts 144 p = u := by
    have e : zp ts 144 p = ts 144 p := zp_o (by omega)
    rw [← e, hts, up_self]
  have es : ipl (ts 144 p) 1 = u + 1 := by rw [s4]; exact ipl_e (by omega)
  obtain ⟨t', ht'⟩ : ∃ t', t' = up2 ts 144 p (u + 1) := ⟨_, rfl⟩
  have zt' : zp t' = up2 z 144 p (u + 1) := by rw [ht', zp_u (by omega), hts, up_up]
  have h4 : ∀ k j, k ≠ 144 → zp t' k j = z k j := fun k j hk => by rw [zt']; exact if_neg (fun q => hk q.1)
  have h4' : ∀ j, j ≠ p → zp t' 144 j = z 144 j := fun j hj => by rw [zt']; exact if_neg (fun q => hj q.2)
  have tk : ∀ k j, k ≠ 142 → k ≠ 147 → k ≠ 144 → t' k j = z k j := fun k j h1 h2 h3 => by
    have e : zp t' k j = t' k j := zp_o (by omega)
    rw [← e]
    exact h4 k j h3
  have t13 : t' 142 13 = ts 142 13 := by rw [ht']; exact if_neg (by omega)
  have x0 : EXR ts t' ([(144, p, u + 1)], []) := by rw [ht']; exact EX_w (by omega) (by omega)
  have hz : SZx z := h.1
  have hzt : SZx (zp t') := fun r => by rw [h4 111 r (by omega)]; exact hz r
  have hqt : QBx t' := fun i hi => by
    have := hqs i hi
    rw [ht', show ∀ i j, up2 ts 144 p (u + 1) (154 + 2 * i) j = ts (154 + 2 * i) j from fun i j => if_neg (by omega), show ∀ i j, up2 ts 144 p (u + 1) (154 + 2 * i) j = ts (154 + 2 * i) j from fun i j => if_neg (by omega), show ∀ i j, up2 ts 144 p (u + 1) (162 + 2 * i) j = ts (162 + 2 * i) j from fun i j => if_neg (by omega), show ∀ i j, up2 ts 144 p (u + 1) (162 + 2 * i) j = ts (162 + 2 * i) j from fun i j => if_neg (by omega)]
    exact this
  have ap := (h.2.2.2.2.2.2.1 p hp).1
  have fp := (h.2.2.1 p ap).1
  have h2k := h.2.1
  obtain ⟨hp1, hlt, _, k1, k2, k3, k4, k5, k6, k7, k8, k9, k10, k11, k12, k13⟩ := EF_k fp
  have nf : ¬ FGx z p := fun q => q.2 (z7 p)
  have hW : Wrx z p = cax ([(144, p, u + 1)], []) (if z 100 p = 2 ∨ z 100 p = 400 ∨ z 100 p = 401 ∨ z 100 p = 402 ∨ z 100 p = 403 then ewx z p u else if z 100 p = 404 then cwx z p u else if z 100 p = 405 ∨ z 100 p = 406 ∨ z 100 p = 407 then mwx z p u else gwx z p u) := by
    unfold Wrx
    rw [if_neg nf, ← hu]
  have norm : ∀ {t2 : tab} {F : wrl × List Int}, EXR t' t2 F → Wrx z p = cax ([(144, p, u + 1)], []) F → ¬ HOx z p → (t2 142 13 = 0 ∨ t2 142 13 = 1) ∧ (t2 142 14 = ts 142 14 ∧ t2 142 15 = ts 142 15) ∧ (T1x z p ts t2 ∧ ¬ HOx z p ∨ T2x z p ts t2 ∧ HOx z p) := fun {t2 F} X e hno => by
    have Y := EX_app x0 X
    rw [← e] at Y
    obtain ⟨y1, y2⟩ := X.1 (by rw [t13]; exact h13)
    refine ⟨y2, Y.2.1, .inl ⟨⟨?_, Y.2.2⟩, hno⟩⟩
    rw [y1, zt', e]
    rfl
  have c100 : ts 100 p = z 100 p := sk 100 p (by omega) (by omega) (by omega)
  have t100 : t' 100 p = z 100 p := tk 100 p (by omega) (by omega) (by omega)
  by_cases e1 : z 100 p = 2 ∨ z 100 p = 400 ∨ z 100 p = 401 ∨ z 100 p = 402 ∨ z 100 p = 403
  · rw [if_pos e1] at hW
    rw [tu_E (by rw [c100]; exact e1), es, s4, ← ht']
    obtain ⟨t2, m1, m2⟩ := ex_E (t := t') (p := p) (u := u) hzt (by rw [t100]; exact e1) hu0.1
    rw [X_ew h4] at m2
    rw [m1, bo_s]
    exact ⟨t2, rfl, norm m2 hW (fun q => by rcases q.2 with w | w <;> have := w.1 <;> omega)⟩
  rw [if_neg e1] at hW
  by_cases e2 : z 100 p = 404
  · rw [if_pos e2] at hW
    obtain ⟨a1, a2, a3, a4, a5, a6⟩ := k5 e2
    rw [tu_C (by rw [c100]; exact e2), es, s4, ← ht']
    have ef : fpx t' (t' 101 p) = z 113 (z 101 p).toNat := by
      unfold fpx
      rw [tk 101 p (by omega) (by omega) (by omega), if_pos ⟨a1.1, a1.2.1⟩, tk 113 _ (by omega) (by omega) (by omega)]
    obtain ⟨t2, m1, m2⟩ := ex_call (t := t') (p := p) (u := u) hzt (by rw [tk 103 p (by omega) (by omega) (by omega)]; exact a2) (by rw [ef, tk 103 p (by omega) (by omega) (by omega)]; exact ⟨a4.1, a4.2.1⟩) hu0.1
    rw [X_cw h4] at m2
    rw [m1, bo_s]
    exact ⟨t2, rfl, norm m2 hW (fun q => by rcases q.2 with w | w <;> have := w.1 <;> omega)⟩
  rw [if_neg e2] at hW
  by_cases e3 : z 100 p = 405 ∨ z 100 p = 406 ∨ z 100 p = 407
  · rw [if_pos e3] at hW
    rw [tu_M (by rw [c100]; exact e3), es, s4, ← ht']
    have e101 := tk 101 p (by omega) (by omega) (by omega)
    have e102 := tk 102 p (by omega) (by omega) (by omega)
    have e103 := tk 103 p (by omega) (by omega) (by omega)
    have sg : sgu t' p u = sgu z p u := by
      unfold sgu
      rw [e103]
    have s2 : ∀ j, t' 152 j = z 152 j := fun j => tk 152 j (by omega) (by omega) (by omega)
    have s3 : ∀ j, t' 153 j = z 153 j := fun j => tk 153 j (by omega) (by omega) (by omega)
    have sq : t' (qin (z 101 p)) 2 = z (qin (z 101 p)) 2 := tk _ 2 (by unfold qin; omega) (by unfold qin; omega) (by unfold qin; omega)
    by_cases x1 : z 100 p = 406 ∧ u ≠ 0 ∧ z 101 p < 8 ∧ 0 ≤ z 153 (z 101 p).toNat
    · obtain ⟨kk, ku, kx, kr⟩ := x1
      have cm : CMx z p := ⟨kx, .inl ⟨kk, by rw [← hu]; exact ku⟩⟩
      have ep : prx z p = z 153 (z 101 p).toNat := if_pos kk
      have w6 := ((h.2.2.2.2.2.2.2.1 (z 101 p).toNat (by omega)).2.2 kr).2.2.2.2.2
      obtain ⟨lR, qR, fR, aR, bR, _⟩ := J_pt h hp cm (by rw [ep]; exact kr)
      obtain ⟨R, hR⟩ : ∃ R : Nat, z 153 (z 101 p).toNat = (R : Int) := ⟨_, (Int.toNat_of_nonneg kr).symm⟩
      rw [ep, hR, Int.toNat_natCast] at lR qR fR aR bR
      rw [hR, Int.toNat_natCast] at w6
      have pR : p ≠ R := fun e => by rw [← e] at qR; omega
      obtain ⟨_, ltR, _, _, _, _, _, _, _, _, j8, _⟩ := EF_k fR
      have jR := j8 (bR kk)
      have nc := J_nc h (J_lf h hp (CM_nb cm)) lR pR
      have n3 : z 103 R ≠ (R : Int) ∧ z 103 R ≠ (p : Int) := by
        rcases jR.2.2 with q | q
        · omega
        · refine ⟨by have := q.2.1; omega, fun e => nc.1 p ⟨hp1, ?_⟩⟩
          have := EF_p q.2.2
          rw [e, Int.toNat_natCast] at this
          exact this
      have m1 : wG 26 [(p : Int), u] t' = some (some (0, up2 (how t' p R (vax t' (t' 102 p))) 153 (z 101 p).toNat (-1))) := by
        have m2 : wG 21 [(p : Int), t' 101 p, vax t' (t' 102 p)] t' = some (some (0, up2 (how t' p R (vax t' (t' 102 p))) 153 (z 101 p).toNat (-1))) := by
          rw [wG_104]
          unfold wM104
          rw [e101, s3, hR, if_neg (show ¬ z 101 p < 0 by have := (k7 kk).1.1; omega), if_pos (show z 101 p < 12 by omega), if_pos kx, if_neg (show ¬ (R : Int) < 0 by omega)]
        rw [wG_103]
        unfold wM103
        rw [Int.toNat_natCast]
        by_cases e3 : 0 ≤ t' 103 p
        · rw [if_pos e3, if_neg (fun q => q (t100.trans kk)), if_pos ku, m2, bo_s]
        · rw [if_neg e3, if_neg (fun q => q (t100.trans kk)), if_pos ku, m2, bo_s]
      obtain ⟨⟨H1, H2⟩, H3, H4⟩ := ho_e (t := t') (a := p) (b := R) (v := vax t' (t' 102 p)) (K := 153) (L := (z 101 p).toNat) hzt (by rw [tk 100 R (by omega) (by omega) (by omega)]; exact bR kk) pR (by rw [tk 103 R (by omega) (by omega) (by omega)]; exact n3.1) (by rw [tk 103 R (by omega) (by omega) (by omega)]; exact n3.2) (by rw [tk 99 12 (by omega) (by omega) (by omega)]; exact hlt) (by rw [tk 99 12 (by omega) (by omega) (by omega)]; exact ltR) (by rw [tk 102 R (by omega) (by omega) (by omega)]; exact ⟨jR.2.1.1, jR.2.1.2.1⟩) (by rw [t13]; exact h13) (.inr rfl)
      have hF : mwx z p u = cax (hox (zp t') p R (vax t' (t' 102 p))) ([(153, (z 101 p).toNat, -1)], []) := by
        unfold mwx
        rw [if_pos kk, if_neg ku]
        unfold swx
        rw [if_neg (show ¬ (z 101 p < 0 ∨ 12 ≤ z 101 p) by have := (k7 kk).1.1; omega), if_neg (show ¬ 8 ≤ z 101 p by omega), if_pos kr, hR, X_ho h4, e102]
        have : vax t' (z 102 p) = vax z (z 102 p) := X_va (s2 := zp t') h4
        rw [this]
      rw [hF] at hW
      have hT : apw (Wrx z p).1 z = apw ((hox (zp t') p R (vax t' (t' 102 p))).1 ++ [(153, (z 101 p).toNat, -1)]) (zp t') := by
        rw [hW, zt']
        rfl
      have hP : (Wrx z p).2 = pux (R : Int) ++ pux (t' 143 p) := by
        rw [hW]
        show [] ++ ((hox (zp t') p R (vax t' (t' 102 p))).2 ++ []) = _
        rw [H3, List.append_nil, List.nil_append]
      rw [m1, bo_s]
      refine ⟨_, rfl, (H4.1 (by rw [t13]; exact h13)).2, ⟨H4.2.1.1.trans x0.2.1.1, H4.2.1.2.trans x0.2.1.2⟩, .inr ⟨⟨R, ?_, by rw [hT]; exact ho_f (by rw [h4 100 R (by omega)]; exact bR kk) (by rw [h4 99 12 (by omega)]; exact ltR) (.inr rfl), ?_, ?_, pux (t' 143 p) ++ pux (t' 143 R), fun r => ?_, fun l hl hn => ?_⟩, nf, .inl ⟨kk, by rw [← hu]; exact ku, kx, kr⟩⟩⟩
      · rw [hP, List.count_append, cn1 (by omega), if_pos rfl]
        omega
      · rw [hT, apw_o _ _ _ _ (fun w hw e => ?_), h4' R pR.symm]
        · exact w6
        · rcases List.mem_append.mp hw with q | q
          · have : w.1 ≠ 144 := by
              unfold hox at q
              split at q
              · rcases List.mem_append.mp q with q | q
                · simp only [List.mem_cons, List.not_mem_nil, or_false] at q
                  rcases q with q | q <;> rw [q]
                  · show (145 : Nat) ≠ 144
                    decide
                  · show (147 : Nat) ≠ 144
                    decide
                · have := tw_k w q
                  omega
              · cases q
            exact this e.1
          · simp only [List.mem_cons, List.not_mem_nil, or_false] at q
            rw [q] at e
            exact absurd (show (153 : Nat) = 144 from e.1) (by decide)
      · rw [hT]
        exact H1
      · rw [hP, hT, H2, List.count_append, List.count_append, pux1 (by omega)]
        omega
      · have := H4.2.2 l (x0.2.2 l hl (by show l.length + 0 ≤ 2000; have : l.length + (pux (t' 143 p) ++ pux (t' 143 R)).length ≤ 2000 := hn; omega)) hn
        exact this
    by_cases x2 : z 100 p = 407 ∧ sgu z p u ≠ 0 ∧ z 101 p < 8 ∧ 0 ≤ z 152 (z 101 p).toNat
    · obtain ⟨kk, ku, kx, kr⟩ := x2
      have cm : CMx z p := ⟨kx, .inr ⟨kk, by rw [← hu]; exact ku, z7 p⟩⟩
      have k6' : ¬ z 100 p = 406 := by omega
      have ep : prx z p = z 152 (z 101 p).toNat := if_neg k6'
      obtain ⟨lR, qR, fR, aR, _, bR⟩ := J_pt h hp cm (by rw [ep]; exact kr)
      obtain ⟨R, hR⟩ : ∃ R : Nat, z 152 (z 101 p).toNat = (R : Int) := ⟨_, (Int.toNat_of_nonneg kr).symm⟩
      rw [ep, hR, Int.toNat_natCast] at lR qR fR aR bR
      have pR : R ≠ p := fun e => by rw [e] at qR; omega
      obtain ⟨hR1, ltR, _⟩ := EF_k fR
      have jR := k8 kk
      have nc := J_nc h (J_lf h hp (CM_nb cm)) lR pR.symm
      have n3 : z 103 p ≠ (p : Int) ∧ z 103 p ≠ (R : Int) := by
        rcases jR.2.2 with q | q
        · omega
        · refine ⟨by have := q.2.1; omega, fun e => nc.1 R ⟨?_, hR1⟩⟩
          have := EF_p q.2.2
          rw [e, Int.toNat_natCast] at this
          exact this
      have m1 : wG 26 [(p : Int), u] t' = some (some (0, up2 (how t' R p (vax t' (t' 102 R))) 152 (z 101 p).toNat (-1))) := by
        have m2 : wG 22 [(p : Int), t' 101 p] t' = some (some (0, up2 (how t' R p (vax t' (t' 102 R))) 152 (z 101 p).toNat (-1))) := by
          rw [wG_107]
          unfold wM107
          rw [e101, s2, hR, if_neg (show ¬ z 101 p < 0 by have := (k8 kk).1.1; omega), if_pos (show z 101 p < 12 by omega), if_pos kx, if_neg (show ¬ (R : Int) < 0 by omega), Int.toNat_natCast]
        rw [mv_407 (t100.trans kk) (by omega) (by rw [sg]; exact ku), m2, bo_s]
      obtain ⟨⟨H1, H2⟩, H3, H4⟩ := ho_e (t := t') (a := R) (b := p) (v := vax t' (t' 102 R)) (K := 152) (L := (z 101 p).toNat) hzt (t100.trans kk) pR (by rw [e103]; exact n3.1) (by rw [e103]; exact n3.2) (by rw [tk 99 12 (by omega) (by omega) (by omega)]; exact ltR) (by rw [tk 99 12 (by omega) (by omega) (by omega)]; exact hlt) (by rw [e102]; exact ⟨jR.2.1.1, jR.2.1.2.1⟩) (by rw [t13]; exact h13) (.inl rfl)
      have hF : mwx z p u = cax (hox (zp t') R p (vax t' (t' 102 R))) ([(152, (z 101 p).toNat, -1)], []) := by
        unfold mwx
        rw [if_neg k6', if_neg ku, if_pos kk]
        unfold rwx
        rw [if_neg (show ¬ (z 101 p < 0 ∨ 12 ≤ z 101 p) by have := (k8 kk).1.1; omega), if_neg (show ¬ 8 ≤ z 101 p by omega), if_pos kr, hR, X_ho h4, Int.toNat_natCast, tk 102 R (by omega) (by omega) (by omega)]
        have : vax t' (z 102 R) = vax z (z 102 R) := X_va (s2 := zp t') h4
        rw [this]
      rw [hF] at hW
      have hT : apw (Wrx z p).1 z = apw ((hox (zp t') R p (vax t' (t' 102 R))).1 ++ [(152, (z 101 p).toNat, -1)]) (zp t') := by
        rw [hW, zt']
        rfl
      have hP : (Wrx z p).2 = pux (p : Int) ++ pux (t' 143 R) := by
        rw [hW]
        show [] ++ ((hox (zp t') R p (vax t' (t' 102 R))).2 ++ []) = _
        rw [H3, List.append_nil, List.nil_append]
      rw [m1, bo_s]
      refine ⟨_, rfl, (H4.1 (by rw [t13]; exact h13)).2, ⟨H4.2.1.1.trans x0.2.1.1, H4.2.1.2.trans x0.2.1.2⟩, .inr ⟨⟨p, ?_, by rw [hT]; exact ho_f (by rw [h4 100 p (by omega)]; exact kk) (by rw [h4 99 12 (by omega)]; exact hlt) (.inl rfl), ?_, ?_, pux (t' 143 R) ++ pux (t' 143 p), fun r => ?_, fun l hl hn => ?_⟩, nf, .inr ⟨kk, by rw [← hu]; exact ku, .inl ⟨kx, kr⟩⟩⟩⟩
      · rw [hP, List.count_append, cn1 (by omega), if_pos rfl]
        omega
      · rw [hT, apw_o _ _ _ _ (fun w hw e => ?_), zt', up_self]
        · omega
        · rcases List.mem_append.mp hw with q | q
          · have : w.1 ≠ 144 := by
              unfold hox at q
              split at q
              · rcases List.mem_append.mp q with q | q
                · simp only [List.mem_cons, List.not_mem_nil, or_false] at q
                  rcases q with q | q <;> rw [q]
                  · show (145 : Nat) ≠ 144
                    decide
                  · show (147 : Nat) ≠ 144
                    decide
                · have := tw_k w q
                  omega
              · cases q
            exact this e.1
          · simp only [List.mem_cons, List.not_mem_nil, or_false] at q
            rw [q] at e
            exact absurd (show (152 : Nat) = 144 from e.1) (by decide)
      · rw [hT]
        exact H1
      · rw [hP, hT, H2, List.count_append, List.count_append, pux1 (by omega)]
        omega
      · have := H4.2.2 l (x0.2.2 l hl (by show l.length + 0 ≤ 2000; have : l.length + (pux (t' 143 R) ++ pux (t' 143 p)).length ≤ 2000 := hn; omega)) hn
        exact this
    by_cases x3 : z 100 p = 407 ∧ sgu z p u ≠ 0 ∧ 8 ≤ z 101 p ∧ 0 < z (qin (z 101 p)) 2
    · obtain ⟨kk, ku, kx, kr⟩ := x3
      have k6' : ¬ z 100 p = 406 := by omega
      have jR := k8 kk
      have n3 : z 103 p ≠ (p : Int) := by
        rcases jR.2.2 with q | q
        · omega
        · have := q.2.1
          omega
      obtain ⟨t2, m2, ⟨H1, H2⟩, H3, ws, H4⟩ := po_e (t := t') (p := p) (x := z 101 p) hzt hqt (t100.trans kk) (by rw [e103]; exact n3) (by rw [tk 99 12 (by omega) (by omega) (by omega)]; exact hlt) (by rw [e102]; exact ⟨jR.2.1.1, jR.2.1.2.1⟩) (by rw [t13]; exact h13) ⟨kx, jR.1.2.1⟩ (by rw [sq]; exact kr)
      have m1 : wG 26 [(p : Int), u] t' = some (some (0, t2)) := by
        rw [mv_407 (t100.trans kk) (by omega) (by rw [sg]; exact ku), e101, m2, bo_s]
      have hF : mwx z p u = rwx (zp t') p (z 101 p) := by
        unfold mwx
        rw [if_neg k6', if_neg ku, if_pos kk, X_rw h4]
      rw [hF] at hW
      have hT : apw (Wrx z p).1 z = apw (rwx (zp t') p (z 101 p)).1 (zp t') := by
        rw [hW, zt']
        rfl
      have hP : (Wrx z p).2 = pux (p : Int) := by
        rw [hW]
        show [] ++ (rwx (zp t') p (z 101 p)).2 = _
        rw [H3, List.nil_append]
      rw [m1, bo_s]
      refine ⟨_, rfl, (H4.1 (by rw [t13]; exact h13)).2, ⟨H4.2.1.1.trans x0.2.1.1, H4.2.1.2.trans x0.2.1.2⟩, .inr ⟨⟨p, ?_, by rw [hT]; exact po_f (by rw [h4 100 p (by omega)]; exact kk) ⟨kx, jR.1.2.1⟩ (by rw [h4 (qin (z 101 p)) 2 (by unfold qin; omega)]; exact kr), ?_, ?_, pux (t' 143 p), fun r => ?_, fun l hl hn => ?_⟩, nf, .inr ⟨kk, by rw [← hu]; exact ku, .inr ⟨kx, kr⟩⟩⟩⟩
      · rw [hP, cn1 (by omega), if_pos rfl]
        omega
      · rw [hT, apw_o _ _ _ _ (fun w hw e => ?_), zt', up_self]
        · omega
        · have : w.1 ≠ 144 := by
            unfold rwx at hw
            rw [if_neg (show ¬ (z 101 p < 0 ∨ 12 ≤ z 101 p) by have := jR.1; omega), if_pos kx] at hw
            have hq9 : qin (z 101 p) ≠ 144 := by unfold qin; omega
            split at hw
            · simp only [List.mem_cons, List.not_mem_nil, or_false] at hw
              rcases hw with q | q | q | q <;> rw [q]
              · exact hq9
              · exact hq9
              · show (145 : Nat) ≠ 144
                decide
              · show (147 : Nat) ≠ 144
                decide
            · simp only [List.mem_cons, List.not_mem_nil, or_false] at hw
              rw [hw]
              show (153 : Nat) ≠ 144
              decide
          exact this e.1
      · rw [hT]
        exact H1
      · rw [hP, hT, H2, pux1 (by omega)]
        omega
      · have := H4.2.2 l (x0.2.2 l hl (by show l.length + 0 ≤ 2000; have : l.length + (pux (t' 143 p)).length ≤ 2000 := hn; omega)) hn
        exact this
    obtain ⟨t2, m1, m2⟩ := ex_mv (t := t') (p := p) (u := u) hzt hqt (by rw [t100]; exact e3) (by omega) (fun k => by rw [t100] at k; rw [e101]; exact ⟨(k6 k).1.1, (k6 k).1.2.1⟩) (fun k => by
      rw [t100] at k
      rw [e101]
      rcases k with k | k
      · exact ⟨(k7 k).1.1, (k7 k).1.2.1⟩
      · exact ⟨(k8 k).1.1, (k8 k).1.2.1⟩) (fun k w q => by
      rw [t100] at k
      rw [e101, s3] at q
      exact x1 ⟨k, w, q.1, q.2⟩) (fun k w => by
      rw [t100] at k
      rw [sg] at w
      rw [e101, s2, sq]
      refine ⟨fun q => ?_, fun q => ?_⟩
      · exact Int.not_le.mp fun y => x2 ⟨k, w, q, y⟩
      · exact Int.not_lt.mp fun y => x3 ⟨k, w, q, y⟩)
    rw [X_mw h4] at m2
    rw [m1, bo_s]
    exact ⟨t2, rfl, norm m2 hW (fun q => by
      have q := q.2
      rw [← hu] at q
      rcases q with w | ⟨k, w, v | v⟩
      · exact x1 w
      · exact x2 ⟨k, w, v⟩
      · exact x3 ⟨k, w, v⟩)⟩
  rw [if_neg e3] at hW
  rw [tu_G (by rw [c100]; omega), es, s4, ← ht']
  obtain ⟨t2, m1, m2⟩ := ex_flow (t := t') (p := p) (u := u) (by rw [t100]; omega) (by omega) (fun k => by
    rw [t100] at k
    rw [tk 102 p (by omega) (by omega) (by omega)]
    have := (k13 k).1.1
    omega)
  rw [X_gw h4] at m2
  rw [m1, bo_s]
  exact ⟨t2, rfl, norm m2 hW (fun q => by rcases q.2 with w | w <;> have := w.1 <;> omega)⟩
end EXE8
