/-! A turn at an out or an in; what a turn looks at. -/
section RDSX
variable {s s2 : tab} {c : Cxx} {p : Nat}
theorem LN_o {x : Int} (h1 : 8 ≤ x) (h2 : x < 12) (hc : c.2.2.2 x.toNat) {k j : Nat} (hk : k = 152 ∧ j = x.toNat ∨ k = qou x ∨ k = qou x + 1) : LNx c k j := by
  refine ⟨x.toNat, by omega, by omega, .inl ⟨hc, ?_⟩⟩
  unfold qou at hk
  rw [show (x - 8).toNat = x.toNat - 8 by omega] at hk
  exact hk
theorem LN_i {x : Int} (h1 : 8 ≤ x) (h2 : x < 12) (hc : c.2.2.2 (12 + x.toNat)) {k j : Nat} (hk : k = 153 ∧ j = x.toNat ∨ k = qin x ∨ k = qin x + 1) : LNx c k j := by
  refine ⟨x.toNat, by omega, by omega, .inr ⟨hc, ?_⟩⟩
  unfold qin at hk
  rw [show (x - 8).toNat = x.toNat - 8 by omega] at hk
  exact hk
theorem FW_L {k j : Nat} (h : LNx c k j) : FWx c k j := .inr (.inr (.inr h))
theorem FR_L {k j : Nat} (h : LNx c k j) : FRx c k j := .inr (.inr (.inr h))
theorem WO_two {w v : Nat × Nat × Int} (hw : FWx c w.1 w.2.1) (hv : FWx c v.1 v.2.1) : WOx c s p [w, v] := fun x hx => by
  simp only [List.mem_cons, List.not_mem_nil, or_false] at hx
  rcases hx with e | e <;> rw [e]
  · exact .inl hw
  · exact .inl hv
theorem FG_n (hf : ¬ FGx s p) (k : s 100 p = 407) : s 147 p = 0 := Classical.byContradiction fun q => hf ⟨k, q⟩
theorem mw_w (hz : SZx s) (h : EF s c p) (hk : s 100 p = 405 ∨ s 100 p = 406 ∨ s 100 p = 407) (hf : ¬ FGx s p) (hn : ¬ CMx s p) : WOx c s p (mwx s p (trn s p)).1 := by
  obtain ⟨hp, _, _, _, _, _, _, _, k6, k7, k8, _⟩ := EF_k h
  have h0 := trn_0 (s := s) (p := p)
  unfold mwx
  by_cases e : s 100 p = 406
  · rw [if_pos e]
    obtain ⟨⟨a1, a2, a3⟩, a4⟩ := k7 e
    by_cases u : trn s p = 0
    · rw [if_pos u]
      exact WO_F (awx_w (CE_p a4))
    · rw [if_neg u]
      have h8 : 8 ≤ s 101 p := Int.not_lt.mp fun q => hn ⟨q, .inl ⟨e, u⟩⟩
      unfold swx
      rw [if_neg (by omega), if_pos h8]
      split
      · exact WO_app (WO_two (FW_L (LN_o h8 a2 a3 (.inr (.inr rfl)))) (FW_L (LN_o h8 a2 a3 (.inr (.inl rfl))))) (twx_w hp)
      · exact WO_one (FW_L (LN_o h8 a2 a3 (.inl ⟨rfl, rfl⟩)))
  · rw [if_neg e]
    by_cases u : sgu s p (trn s p) = 0
    · rw [if_pos u]
      have hq : ¬ s 103 p = -1 := fun q => by
        unfold sgu at u
        rw [q, if_pos (by decide)] at u
        omega
      refine WO_F (awx_w ?_)
      rcases hk with k | k | k
      · exact (k6 k).2.2.elim (fun q => absurd q hq) CE_p
      · exact absurd k e
      · exact (k8 k).2.2.elim (fun q => absurd q hq) CE_p
    · rw [if_neg u]
      by_cases k : s 100 p = 407
      · rw [if_pos k]
        obtain ⟨⟨a1, a2, a3⟩, ⟨a4, a5, a6⟩, a7⟩ := k8 k
        have h8 : 8 ≤ s 101 p := Int.not_lt.mp fun q => hn ⟨q, .inr ⟨k, u, FG_n hf k⟩⟩
        unfold rwx
        rw [if_neg (by omega), if_pos h8]
        split
        · exact WO_app (a := [_, _]) (WO_two (FW_L (LN_i h8 a2 a3 (.inr (.inl rfl)))) (FW_L (LN_i h8 a2 a3 (.inr (.inl rfl))))) (WO_two (FW_p (k := 145) (by omega) hp) (FW_p (k := 147) (by omega) hp))
        · exact WO_one (FW_L (LN_i h8 a2 a3 (.inl ⟨rfl, rfl⟩)))
      · rw [if_neg k]
        have k5 : s 100 p = 405 := by
          rcases hk with q | q | q
          · exact q
          · exact absurd q e
          · exact absurd q k
        obtain ⟨⟨a1, a2, a3⟩, a4, a5⟩ := k6 k5
        by_cases v : sgu s p (trn s p) = 1
        · rw [if_pos v]
          exact WO_F (awx_w (CE_p a4))
        · rw [if_neg v]
          exact WO_app (WO_F (asx_w hz a3)) (twx_w hp)
/-- all writes of a turn -/
theorem Wr_w (hz : SZx s) (h : EF s c p) (hph : PHx s p) (hn : ¬ CMx s p) : WOx c s p (Wrx s p).1 := by
  have hp := EF_p h
  unfold Wrx
  split
  · rename_i hf
    obtain ⟨_, _, _, _, _, _, _, _, _, _, k8, _⟩ := EF_k h
    unfold fgx
    exact WO_app (a := (144, p, s 144 p) :: (147, p, 0) :: asx s (s 102 p) (vax s (s 103 p)) (s 145 p)) (WO_app (a := [(144, p, s 144 p), (147, p, 0)]) (WO_two (FW_p (k := 144) (by omega) hp) (FW_p (k := 147) (by omega) hp)) (WO_F (asx_w hz (k8 hf.1).2.1.2.2))) (twx_w hp)
  rename_i hf
  refine WO_app (WO_one (FW_p (by omega) hp)) ?_
  split
  · rename_i e
    exact ew_w h e
  · split
    · rename_i e
      exact cw_w hz h e hph
    · split
      · rename_i e
        exact mw_w hz h e hf hn
      · exact gw_w h hph
theorem trn_e (h : AGx c s s2) (hp : c.1 p) : trn s2 p = trn s p := by
  unfold trn
  rw [AG_p h (by omega) hp]
theorem ew_e (hz : SZx s) (h : EF s c p) (ha : AGx c s s2) (hk : s 100 p = 2 ∨ s 100 p = 400 ∨ s 100 p = 401 ∨ s 100 p = 402 ∨ s 100 p = 403) {u : Int} : ewx s2 p u = ewx s p u := by
  obtain ⟨hp, _, _, k1, k2, k3, k4, _⟩ := EF_k h
  unfold ewx
  rw [ha.1 100 p (by omega), ha.1 101 p (by omega), ha.1 102 p (by omega), ha.1 103 p (by omega), awx_e ha, awx_e ha, twx_e ha hp, twx_e ha hp, twx_e ha hp, twx_e ha hp]
  by_cases e2 : s 100 p = 2
  · rw [if_pos e2, if_pos e2]
  · rw [if_neg e2, if_neg e2]
    by_cases e3 : s 100 p = 400
    · rw [if_pos e3, if_pos e3, vrx_e ha (fun _ => (k1 e3).2.2)]
    · rw [if_neg e3, if_neg e3]
      by_cases e4 : s 100 p = 403
      · rw [if_pos e4, if_pos e4, vax_e ha (CE_p (k4 e4).1), vax_e ha (CE_p (k4 e4).2)]
      · rw [if_neg e4, if_neg e4]
        by_cases e5 : s 100 p = 401
        · rw [vax_e ha (CE_p (k2 e5).2), itx_e hz ha (fun _ => (k2 e5).1.2.2)]
        · have e6 : s 100 p = 402 := by
            rcases hk with q | q | q | q | q
            · exact absurd q e2
            · exact absurd q e3
            · exact absurd q e5
            · exact q
            · exact absurd q e4
          rw [vax_e ha (CE_p (k3 e6)), if_neg e5, if_neg e5]
theorem cw_e (h : EF s c p) (ha : AGx c s s2) (hk : s 100 p = 404) (hph : PHx s p) : cwx s2 p (trn s p) = cwx s p (trn s p) := by
  obtain ⟨hp, _, _, _, _, _, _, k5, _⟩ := EF_k h
  obtain ⟨a1, a2, a3, a4, a5, a6⟩ := k5 hk
  have h0 := trn_0 (s := s) (p := p)
  have e146 : s2 146 p = s 146 p := AG_p ha (by omega) hp
  unfold cwx
  have ef : fpx s2 (s 101 p) = fpx s (s 101 p) := by
    unfold fpx
    rw [ha.1 113 _ (by omega)]
  have eb : bdx s2 (s 101 p) = bdx s (s 101 p) := by
    unfold bdx
    rw [ha.1 114 _ (by omega)]
  rw [ha.1 101 p (by omega), ha.1 102 p (by omega), ha.1 103 p (by omega), e146, flx_e ha, awx_e ha, ef, eb, awx_e ha, otx_e ha hp, pwx_e ha _ _ _ (fun m hm _ => EF_p (a3 m hm).2.2)]
  by_cases u1 : trn s p < s 103 p
  · rw [if_pos u1, if_pos u1]
  · rw [if_neg u1, if_neg u1]
    by_cases u2 : trn s p = s 103 p
    · rw [if_pos u2, if_pos u2]
    · rw [if_neg u2, if_neg u2]
      obtain ⟨i, hi⟩ := hph.2.2 hk (by omega)
      rw [vax_e ha (by rw [hi]; exact nth_c a6)]
theorem gw_e (h : EF s c p) (ha : AGx c s s2) : gwx s2 p (trn s p) = gwx s p (trn s p) := by
  obtain ⟨hp, _, _, _, _, _, _, _, _, _, _, k9, k10, k11, k12, k13⟩ := EF_k h
  have e146 : s2 146 p = s 146 p := AG_p ha (by omega) hp
  unfold gwx
  rw [ha.1 100 p (by omega), ha.1 101 p (by omega), ha.1 102 p (by omega), ha.1 103 p (by omega), e146, flx_e ha, bwx_e ha, awx_e ha, twx_e ha hp, otx_e ha hp, otx_e ha hp, otx_e ha hp, otx_e ha hp]
  by_cases e1 : s 100 p = 308
  · rw [if_pos e1, if_pos e1, vax_e ha (CE_p (k10 e1).1)]
  · rw [if_neg e1, if_neg e1]
    by_cases e2 : s 100 p = 310
    · rw [if_pos e2, if_pos e2, vax_e ha (CE_p (k11 e2).1)]
    · rw [if_neg e2, if_neg e2]
theorem mw_e (h : EF s c p) (ha : AGx c s s2) (hk : s 100 p = 405 ∨ s 100 p = 406 ∨ s 100 p = 407) (hf : ¬ FGx s p) (hn : ¬ CMx s p) : mwx s2 p (trn s p) = mwx s p (trn s p) := by
  obtain ⟨hp, _, _, _, _, _, _, _, k6, k7, k8, _⟩ := EF_k h
  have e1 := ha.1 100 p (by omega)
  have e2 := ha.1 101 p (by omega)
  have e3 := ha.1 102 p (by omega)
  have e4 := ha.1 103 p (by omega)
  have e5 : sgu s2 p (trn s p) = sgu s p (trn s p) := by
    unfold sgu
    rw [e4]
  unfold mwx
  rw [e1, e2, e3, e4, e5, awx_e ha, awx_e ha]
  by_cases k : s 100 p = 406
  · obtain ⟨⟨a1, a2, a3⟩, a4⟩ := k7 k
    rw [if_pos k, if_pos k]
    by_cases u : trn s p = 0
    · rw [if_pos u, if_pos u]
    · rw [if_neg u, if_neg u, vax_e ha (CE_p a4)]
      have h8 : 8 ≤ s 101 p := by
        exact Int.not_lt.mp fun q => hn ⟨q, .inl ⟨k, u⟩⟩
      unfold swx
      rw [ha.2 (qou (s 101 p)) 1 (FR_L (LN_o h8 a2 a3 (.inr (.inl rfl)))), ha.2 (qou (s 101 p)) 2 (FR_L (LN_o h8 a2 a3 (.inr (.inl rfl)))), twx_e ha hp, if_neg (show ¬ (s 101 p < 0 ∨ 12 ≤ s 101 p) by omega), if_pos h8, if_neg (show ¬ (s 101 p < 0 ∨ 12 ≤ s 101 p) by omega), if_pos h8]
  · rw [if_neg k, if_neg k]
    by_cases u : sgu s p (trn s p) = 0
    · rw [if_pos u, if_pos u]
    · rw [if_neg u, if_neg u]
      by_cases k2 : s 100 p = 407
      · obtain ⟨⟨a1, a2, a3⟩, ⟨a4, a5, a6⟩, a7⟩ := k8 k2
        rw [if_pos k2, if_pos k2]
        have h8 : 8 ≤ s 101 p := by
          exact Int.not_lt.mp fun q => hn ⟨q, .inr ⟨k2, u, FG_n hf k2⟩⟩
        unfold rwx
        rw [ha.2 (qin (s 101 p)) 1 (FR_L (LN_i h8 a2 a3 (.inr (.inl rfl)))), ha.2 (qin (s 101 p)) 2 (FR_L (LN_i h8 a2 a3 (.inr (.inl rfl)))), ha.2 (qin (s 101 p) + 1) _ (FR_L (LN_i h8 a2 a3 (.inr (.inr rfl)))), if_neg (show ¬ (s 101 p < 0 ∨ 12 ≤ s 101 p) by omega), if_pos h8, if_neg (show ¬ (s 101 p < 0 ∨ 12 ≤ s 101 p) by omega), if_pos h8]
      · have k3 : s 100 p = 405 := by
          rcases hk with q | q | q
          · exact q
          · exact absurd q k
          · exact absurd q k2
        obtain ⟨⟨a1, a2, a3⟩, a4, a5⟩ := k6 k3
        have hv : vax s2 (s 103 p) = vax s (s 103 p) := by
          rcases a5 with q | q
          · exact vax_e ha (fun z => absurd z (by omega))
          · exact vax_e ha (CE_p q)
        rw [if_neg k2, if_neg k2, hv, vax_e ha (CE_p a4), asx_e ha, twx_e ha hp]
/-- a turn depends on nothing else -/
theorem Wr_e (hz : SZx s) (h : EF s c p) (hph : PHx s p) (hn : ¬ CMx s p) (ha : AGx c s s2) : Wrx s2 p = Wrx s p := by
  have hp := EF_p h
  have ef : FGx s2 p ↔ FGx s p := by
    unfold FGx
    rw [ha.1 100 p (by omega), AG_p ha (by omega) hp]
  unfold Wrx
  by_cases hf : FGx s p
  · rw [if_pos hf, if_pos (ef.mpr hf)]
    obtain ⟨_, _, _, _, _, _, _, _, _, _, k8, _⟩ := EF_k h
    have hv : vax s2 (s 103 p) = vax s (s 103 p) := by
      rcases (k8 hf.1).2.2 with q | q
      · exact vax_e ha (fun z => absurd z (by omega))
      · exact vax_e ha (CE_p q)
    unfold fgx
    rw [ha.1 102 p (by omega), ha.1 103 p (by omega), hv, asx_e ha, twx_e ha hp, AG_p ha (k := 144) (by omega) hp, AG_p ha (k := 145) (by omega) hp]
  rw [if_neg hf, if_neg (fun q => hf (ef.mp q)), trn_e ha hp, ha.1 100 p (by omega)]
  congr 1
  split
  · rename_i e
    exact ew_e hz h ha e
  · split
    · rename_i e
      exact cw_e h ha e hph
    · split
      · rename_i e
        exact mw_e h ha e hf hn
      · exact gw_e h ha
end RDSX
