theorem CW_at {C : Nat} {r r2 : tab} (hC : C = 177 ∨ C = 186) (h : CW C r) (e : ∀ k j, C ≤ k → k ≤ C + 8 → r2 k j = r k j) : CW C r2 := by
  obtain ⟨⟨F, w0, na, st, h1⟩, h2, h3⟩ := h
  have h4 : CWF C r2 F w0 na st := CWF_at (r := r) (funext fun j => e _ _ (by omega) (by omega)) (fun j => e _ _ (by omega) (by omega)) (fun j _ => e _ _ (by omega) (by omega)) h1
  exact ⟨⟨F, w0, na, st, h4⟩, by rw [e _ _ (by omega) (by omega), e _ _ (by omega) (by omega)]; exact h2, LK_at h3 (fun k j hk => e k j (by omega) (by omega))⟩
theorem SA_begin {C : Nat} {r r2 : tab} (hC : C = 177 ∨ C = 186) (hW : CW C r) (hX : RX r r2) (h20 : r 170 20 = 1) (hH : HD r2) (h52 : r2 170 52 = 0) (h55 : r2 170 55 = 1) (h5 : r2 205 0 = r C 2) (h6 : r2 206 0 = 1) (h8 : r2 208 0 = 0) (h9 : r2 209 0 = 0) (h10 : r2 210 0 = -1) : SA C r2 := by
  obtain ⟨⟨F, w0, na, st, h1⟩, h2, h3⟩ := CW_at hC hW (fun k j a b => hX k j (by unfold RS; omega))
  have h1 : CWF C r2 F w0 na st := h1
  exact .inr ⟨(hX _ _ (by unfold RS; omega)).trans h20, hH, h2, h3, F, w0, na, st, h1, .inr (.inr ⟨.inl h52, RI_begin h1.2.1 h55 (h5.trans ((hX C 2 (by unfold RS; omega)).symm.trans h1.2.2.1)) h6 h8 h9 h10⟩)⟩
theorem SA_CW {C : Nat} {r : tab} (h : SA C r) : r 170 20 = 0 ∨ r 170 20 = 1 ∧ CW C r := by
  rcases h with h | ⟨h1, _, h2, h3, F, w0, na, st, h4, _⟩
  · exact .inl h
  · exact .inr ⟨h1, ⟨F, w0, na, st, h4⟩, h2, h3⟩
theorem p_begin {d C D : Nat} (s : rS) (hR : RF s.1) (hS : SI C D s.1) : cr (d + 2) 160 [.ref 170] s (MP 1 (fun t => t = s.1 170 1) s) := by
  have hC := SI_C hS
  refine cr_mono (p_begin0 (d := d) hC s hR hS.2.2.1) ?_
  rintro s2 out ⟨⟨z, rfl⟩, hc, hX, h⟩
  rcases h with ⟨e, _⟩ | ⟨h20, hH, h52, h55, h5, h6, h8, h9, h10⟩
  · rw [e]
    exact MP_same rfl rfl hR hS
  · rcases SA_CW hS.2.2.2.2 with q | ⟨_, hW⟩
    · omega
    · exact ⟨⟨_, rfl, rfl⟩, hc, RX_RF hX hR, RX_LO hX, ⟨C, D, hS.1, by rw [hX 170 1 (by unfold RS; omega)]; exact hS.2.1, (hX _ _ (by unfold RS; omega)).trans hS.2.2.1, (hX _ _ (by unfold RS; omega)).trans hS.2.2.2.1, SA_begin hC hW hX h20 hH h52 h55 h5 h6 h8 h9 h10⟩, hX _ _ (by unfold RS; omega)⟩
theorem SI_FR0 {C D : Nat} {r r2 : tab} (h : SI C D r) (hf : FR0 D r r2) : SI C D r2 := by
  have hC := SI_C h
  obtain ⟨h1, h2, h3, h4, h5⟩ := h
  have e : ∀ k j, ¬ PS D k j → ¬ (k = 170 ∧ (j = 1 ∨ j = 19)) → r2 k j = r k j := hf.1
  exact ⟨h1, by rw [hf.2]; omega, (e _ _ (by unfold PS; omega) (by omega)).trans h3, (e _ _ (by unfold PS; omega) (by omega)).trans h4, SA_at hC h5 (fun k j a b => e k j (by unfold PS; omega) (by omega)) (e _ _ (by unfold PS; omega) (by omega)) (fun q => HD_at q (fun i => e _ _ (by unfold PS; omega) (by omega))) (fun F q => SW_at q (fun k e1 e2 e3 => funext fun j => e k j (by unfold PS; omega) (by omega)) (e _ _ (by unfold PS; omega) (by omega)) (e _ _ (by unfold PS; omega) (by omega)))⟩
set_option maxHeartbeats 20000000 in
set_option maxRecDepth 100000 in
theorem p_compile {d C D : Nat} (s : rS) (hR : RF s.1) (hS : SI C D s.1)  : cr (d + 520 + 1) 121 [.ref 170] s (MP 1 (fun t => t = 0) s) := by
  have hC := SI_C hS
  have ht0 := hS.2.1
  have hD : D = 177 ∨ D = 186 := by rcases hS.1 with q | q <;> omega
  have hBl : CBl 63 := (p_S 63).2.1
  have hRt : ∀ d, CRt d := fun d => p_routine hBl (p_body (p_E 340).1 (p_S 62).1)
  refine cr_of (M := tb_M121) rfl (Nat.le_of_ble_eq_true rfl) ?_
  show wr (d + 520) tb_M121 0 [(0, .ref 170)] [] s _
  refine wr_n (pc2 := 1) (lv2 := [(0, .ref 170)]) (st2 := [.ref 170]) 1 (fun _ _ => rfl) ?_
  refine wr_call1 (args := []) (rest := []) rfl rfl rfl rfl (Nat.le_of_ble_eq_true rfl) (cr_mono (p_read (d := d) (C := D) hD hBl hRt _ hR hS.2.2.2.1 ht0) ?_)
  rintro s1 out ⟨b1, rfl, hc1, hR1, hF1, hb1⟩
  · refine ⟨_, rfl, ?_⟩
    show wr (d + 520) tb_M121 4 [(0, .ref 170)] [vi b1] s1 _
    have hR1 : RF s1.1 := hR1
    have e17 : s1.1 170 17 = (C : Int) := (hF1.1 170 17 (by unfold PS; omega) (by omega)).trans hS.2.2.1
    have e18 : s1.1 170 18 = (D : Int) := (hF1.1 170 18 (by unfold PS; omega) (by omega)).trans hS.2.2.2.1
    by_cases h3 : b1 ≠ 0
    · refine wr_if1t rfl rfl (by unfold i32; omega) h3 ?_
      refine wr_n (pc2 := 13) (lv2 := [(0, .ref 170)]) (st2 := [.ref 170]) 1 (fun _ _ => rfl) ?_
      have hW : CW D s1.1 := by rcases hb1 with q | q; exact absurd q (by omega); exact q.2
      refine wr_get (v := .ref C) rfl rfl rfl (by decide) (rv_ref e17) fun hg13 => ?_
      show wr (d + 520) tb_M121 16 [(0, .ref 170)] [.ref C] s1 _
      refine wr_n (pc2 := 19) (lv2 := [(1, .ref C), (0, .ref 170)]) (st2 := [.ref 170, .ref 170]) 3 (fun _ _ => rfl) ?_
      refine wr_get (v := .ref D) rfl rfl rfl (by decide) (rv_ref e18) fun hg19 => ?_
      show wr (d + 520) tb_M121 22 [(1, .ref C), (0, .ref 170)] [.ref D, .ref 170] s1 _
      refine wr_put (z := (D : Int)) rfl rfl rfl rfl (by decide) rfl (by decide) (rv_ref rfl) (show -1 ≤ (D : Int) by omega) (hf_ref _ _) ?_
      show wr (d + 520) tb_M121 25 [(1, .ref C), (0, .ref 170)] [] (up2 s1.1 170 17 ((D : Int)), s1.2) _
      refine wr_n (pc2 := 27) (lv2 := [(1, .ref C), (0, .ref 170)]) (st2 := [.ref C, .ref 170]) 2 (fun _ _ => rfl) ?_
      refine wr_put (z := (C : Int)) rfl rfl rfl rfl (by decide) rfl (by decide) (rv_ref rfl) (show -1 ≤ (C : Int) by omega) (hf_ref _ _) ?_
      show wr (d + 520) tb_M121 30 [(1, .ref C), (0, .ref 170)] [] (up2 (up2 s1.1 170 17 ((D : Int))) 170 18 ((C : Int)), s1.2) _
      refine wr_n (pc2 := 32) (lv2 := [(1, .ref C), (0, .ref 170)]) (st2 := [vi 1, .ref 170]) 2 (fun _ _ => rfl) ?_
      refine wr_put (z := 1) rfl rfl rfl rfl (by decide) rfl (by decide) rfl (show 0 ≤ 1 ∧ 1 ≤ 1 by omega) (fit_i (.inr (.inl rfl)) (show 0 ≤ 1 ∧ 1 ≤ 1 by omega)) ?_
      show wr (d + 520) tb_M121 35 [(1, .ref C), (0, .ref 170)] [] (up2 (up2 (up2 s1.1 170 17 ((D : Int))) 170 18 ((C : Int))) 170 20 1, s1.2) _
      have hR4 : RF (up2 (up2 (up2 s1.1 170 17 ((D : Int))) 170 18 ((C : Int))) 170 20 1) := (RF_up (RF_up (RF_up hR1 rfl) rfl) rfl)
      refine wr_n (pc2 := 36) (lv2 := [(1, .ref C), (0, .ref 170)]) (st2 := [.ref 170]) 1 (fun _ _ => rfl) ?_
      have hRT : RF (up2 (up2 (up2 s1.1 170 17 ((D : Int))) 170 18 ((C : Int))) 170 20 1) := RF_up (RF_up (RF_up hR1 rfl) rfl) rfl
      refine wr_call1 (args := []) (rest := []) rfl rfl rfl rfl (Nat.le_of_ble_eq_true rfl) (cr_mono (p_begin0 (d := d + 518) (C := D) hD _ hRT (by show (up2 (up2 (up2 s1.1 170 17 ((D : Int))) 170 18 ((C : Int))) 170 20 1) 170 17 = (D : Int); exact (if_neg (by omega)).trans ((if_neg (by omega)).trans up_self))) ?_)
      rintro s6 out ⟨⟨z2, rfl⟩, hc2, hX2, hA⟩
      · refine ⟨_, rfl, ?_⟩
        show wr (d + 520) tb_M121 39 [(1, .ref C), (0, .ref 170)] [vi z2] s6 _
        have eT : ∀ k j, k ≠ 170 → (up2 (up2 (up2 s1.1 170 17 ((D : Int))) 170 18 ((C : Int))) 170 20 1) k j = s1.1 k j := fun k j e => (up_nk e).trans ((up_nk e).trans (up_nk e))
        have t1 : (up2 (up2 (up2 s1.1 170 17 ((D : Int))) 170 18 ((C : Int))) 170 20 1) 170 1 = 0 := ((if_neg (by omega)).trans ((if_neg (by omega)).trans (if_neg (by omega)))).trans hF1.2
        have t17 : (up2 (up2 (up2 s1.1 170 17 ((D : Int))) 170 18 ((C : Int))) 170 20 1) 170 17 = (D : Int) := (if_neg (by omega)).trans ((if_neg (by omega)).trans up_self)
        have t18 : (up2 (up2 (up2 s1.1 170 17 ((D : Int))) 170 18 ((C : Int))) 170 20 1) 170 18 = (C : Int) := (if_neg (by omega)).trans up_self
        have t20 : (up2 (up2 (up2 s1.1 170 17 ((D : Int))) 170 18 ((C : Int))) 170 20 1) 170 20 = 1 := up_self
        have hWT : CW D (up2 (up2 (up2 s1.1 170 17 ((D : Int))) 170 18 ((C : Int))) 170 20 1) := CW_at hD hW (fun k j a b => eT k j (by omega))
        rcases hA with ⟨_, q20⟩ | ⟨_, hH, h52, h55, h5, h6, h8, h9, h10⟩
        · exfalso; have q20 : (up2 (up2 (up2 s1.1 170 17 ((D : Int))) 170 18 ((C : Int))) 170 20 1) 170 20 = 0 := q20; omega
        have hSn : SI D C s6.1 := ⟨by have := hS.1; omega, by rw [hX2 170 1 (by unfold RS; omega)]; show 0 ≤ (up2 (up2 (up2 s1.1 170 17 ((D : Int))) 170 18 ((C : Int))) 170 20 1) 170 1 ∧ (up2 (up2 (up2 s1.1 170 17 ((D : Int))) 170 18 ((C : Int))) 170 20 1) 170 1 ≤ 2000; omega, (hX2 _ _ (by unfold RS; omega)).trans t17, (hX2 _ _ (by unfold RS; omega)).trans t18, SA_begin hD hWT hX2 t20 hH h52 h55 h5 h6 h8 h9 h10⟩
        refine wr_n (pc2 := 42) (lv2 := [(1, .ref C), (0, .ref 170)]) (st2 := [vi ((-2))]) 2 (fun _ _ => rfl) ?_
        refine wr_end (fun _ _ => rfl) ?_
        exact ⟨⟨_, rfl, rfl⟩, hc2.trans hc1, RX_RF hX2 hRT, fun k j hk => (hX2 k j (by unfold RS; omega)).trans ((eT k j (by omega)).trans (hF1.1 k j (by unfold PS; omega) (by omega))), ⟨D, C, hSn⟩, (hX2 170 1 (by unfold RS; omega)).trans t1⟩
    · refine wr_if1f rfl rfl (by unfold i32; omega) h3 ?_
      refine wr_n (pc2 := 8) (lv2 := [(0, .ref 170)]) (st2 := [.ref 170]) 1 (fun _ _ => rfl) ?_
      refine wr_get (v := vi (s1.1 170 8)) rfl rfl rfl (by decide) rfl fun h8 => ?_
      have h8 : -2147483648 ≤ s1.1 170 8 ∧ s1.1 170 8 ≤ 2147483647 := h8
      show wr (d + 520) tb_M121 11 [(0, .ref 170)] [vi (s1.1 170 8)] s1 _
      refine wr_reti rfl rfl ?_
      exact ⟨⟨_, rfl, rfl⟩, hc1, hR1, fun k j hk => hF1.1 k j (by unfold PS; omega) (by omega), ⟨C, D, SI_FR0 hS hF1⟩, hF1.2⟩
