/-! The reference's compile, once more. -/
def KPF (C k j : Nat) : Prop := 203 ≤ k ∨ C ≤ k ∧ k < C + 9 ∨ k = 170 ∧ (j = 17 ∨ j = 18 ∨ j = 20 ∨ 52 ≤ j ∧ j ≤ 55)
def MC2 (C D : Nat) (Q2 : rS → hm_Out → Prop) (s : rS) : rS → hm_Out → Prop := fun s2 out => MP 1 (fun t => t = 0) s s2 out ∧ ∃ s9 b, Q2 s9 (some (some (vi b))) ∧ (b = 0 ∧ (∀ k j, KPF C k j → s2.1 k j = s.1 k j) ∨ b = 1 ∧ s2.1 170 20 = 1 ∧ s2.1 170 17 = (D : Int) ∧ s2.1 170 18 = (C : Int) ∧ (∀ k j, inR k j → D ≤ k ∧ k < D + 9 → s2.1 k j = s9.1 k j) ∧ s2.1 170 52 = 0 ∧ s2.1 170 55 = 1 ∧ s2.1 205 0 = s2.1 D 2 ∧ s2.1 206 0 = 1 ∧ s2.1 208 0 = 0 ∧ s2.1 209 0 = 0 ∧ (∀ j, j < 24 → s2.1 203 j = 0) ∧ (∀ a, a < 6 → ∀ j, j < 64 → s2.1 (213 + a) j = 0) ∧ ∀ j, j < 8 → s2.1 1630 j = 0)
set_option maxHeartbeats 20000000 in
set_option maxRecDepth 100000 in
theorem qq_compile {d C D : Nat} (s : rS) (hR : RF s.1) (hS : SI C D s.1) {Q2 : rS → hm_Out → Prop} (hX : ∀ K, pcr K (d + 520) 122 [.ref 170] s Q2) : cr (d + 520 + 1) 121 [.ref 170] s (MC2 C D Q2 s) := by
  have hC := SI_C hS
  have ht0 := hS.2.1
  have hD : D = 177 ∨ D = 186 := by rcases hS.1 with q | q <;> omega
  have hBl : CBl 63 := (p_S 63).2.1
  have hRt : ∀ d, CRt d := fun d => p_routine hBl (p_body (p_E 340).1 (p_S 62).1)
  refine cr_of (M := tb_M121) rfl (Nat.le_of_ble_eq_true rfl) ?_
  show wr (d + 520) tb_M121 0 [(0, .ref 170)] [] s _
  refine wr_n (pc2 := 1) (lv2 := [(0, .ref 170)]) (st2 := [.ref 170]) 1 (fun _ _ => rfl) ?_
  refine wr_call1 (args := []) (rest := []) rfl rfl rfl rfl (Nat.le_of_ble_eq_true rfl) (cr_mono (cr_pcr (p_read (d := d) (C := D) hD hBl hRt _ hR hS.2.2.2.1 ht0) hX) ?_)
  rintro s1 out ⟨⟨b1, rfl, hc1, hR1, hF1, hb1⟩, s9, _, hq, gg, hg1, hg9⟩
  · refine ⟨_, rfl, ?_⟩
    show wr (d + 520) tb_M121 4 [(0, .ref 170)] [vi b1] s1 _
    have hR1 : RF s1.1 := hR1
    have e17 : s1.1 170 17 = (C : Int) := (hF1.1 170 17 (by unfold PS; omega) (by omega)).trans hS.2.2.1
    have e18 : s1.1 170 18 = (D : Int) := (hF1.1 170 18 (by unfold PS; omega) (by omega)).trans hS.2.2.2.1
    by_cases h3 : b1 ≠ 0
    · refine wr_if1t rfl rfl (by unfold i32; omega) h3 ?_
      refine wr_n (pc2 := 13) (lv2 := [(0, .ref 170)]) (st2 := [.ref 170]) 1 (fun _ _ => rfl) ?_
      have hW : CW D s1.1 := by rcases hb1 with q | q; exact absurd q (by omega); exact q.2
      refine wr_get (v := .ref C) rfl rfl rfl (by decide) (rv_ref e17) fun hg13 => ?_
      show wr (d + 520) tb_M121 16 [(0, .ref 170)] [.ref C] s1 _
      refine wr_n (pc2 := 19) (lv2 := [(1, .ref C), (0, .ref 170)]) (st2 := [.ref 170, .ref 170]) 3 (fun _ _ => rfl) ?_
      refine wr_get (v := .ref D) rfl rfl rfl (by decide) (rv_ref e18) fun hg19 => ?_
      show wr (d + 520) tb_M121 22 [(1, .ref C), (0, .ref 170)] [.ref D, .ref 170] s1 _
      refine wr_put (z := (D : Int)) rfl rfl rfl rfl (by decide) rfl (by decide) (rv_ref rfl) (show -1 ≤ (D : Int) by omega) (hf_ref _ _) ?_
      show wr (d + 520) tb_M121 25 [(1, .ref C), (0, .ref 170)] [] (up2 s1.1 170 17 ((D : Int)), s1.2) _
      refine wr_n (pc2 := 27) (lv2 := [(1, .ref C), (0, .ref 170)]) (st2 := [.ref C, .ref 170]) 2 (fun _ _ => rfl) ?_
      refine wr_put (z := (C : Int)) rfl rfl rfl rfl (by decide) rfl (by decide) (rv_ref rfl) (show -1 ≤ (C : Int) by omega) (hf_ref _ _) ?_
      show wr (d + 520) tb_M121 30 [(1, .ref C), (0, .ref 170)] [] (up2 (up2 s1.1 170 17 ((D : Int))) 170 18 ((C : Int)), s1.2) _
      refine wr_n (pc2 := 32) (lv2 := [(1, .ref C), (0, .ref 170)]) (st2 := [vi 1, .ref 170]) 2 (fun _ _ => rfl) ?_
      refine wr_put (z := 1) rfl rfl rfl rfl (by decide) rfl (by decide) rfl (show 0 ≤ 1 ∧ 1 ≤ 1 by omega) (fit_i (.inr (.inl rfl)) (show 0 ≤ 1 ∧ 1 ≤ 1 by omega)) ?_
      show wr (d + 520) tb_M121 35 [(1, .ref C), (0, .ref 170)] [] (up2 (up2 (up2 s1.1 170 17 ((D : Int))) 170 18 ((C : Int))) 170 20 1, s1.2) _
      have hR4 : RF (up2 (up2 (up2 s1.1 170 17 ((D : Int))) 170 18 ((C : Int))) 170 20 1) := (RF_up (RF_up (RF_up hR1 rfl) rfl) rfl)
      refine wr_n (pc2 := 36) (lv2 := [(1, .ref C), (0, .ref 170)]) (st2 := [.ref 170]) 1 (fun _ _ => rfl) ?_
      have hRT : RF (up2 (up2 (up2 s1.1 170 17 ((D : Int))) 170 18 ((C : Int))) 170 20 1) := RF_up (RF_up (RF_up hR1 rfl) rfl) rfl
      refine wr_call1 (args := []) (rest := []) rfl rfl rfl rfl (Nat.le_of_ble_eq_true rfl) (cr_mono (qq_begin0 (d := d + 518) (C := D) hD _ hRT (by show (up2 (up2 (up2 s1.1 170 17 ((D : Int))) 170 18 ((C : Int))) 170 20 1) 170 17 = (D : Int); exact (if_neg (by omega)).trans ((if_neg (by omega)).trans up_self))) ?_)
      rintro s6 out ⟨⟨⟨⟨z2, rfl⟩, hc2, hX2, hA⟩, _⟩, hZ0⟩
      · refine ⟨_, rfl, ?_⟩
        show wr (d + 520) tb_M121 39 [(1, .ref C), (0, .ref 170)] [vi z2] s6 _
        have eT : ∀ k j, k ≠ 170 → (up2 (up2 (up2 s1.1 170 17 ((D : Int))) 170 18 ((C : Int))) 170 20 1) k j = s1.1 k j := fun k j e => (up_nk e).trans ((up_nk e).trans (up_nk e))
        have t1 : (up2 (up2 (up2 s1.1 170 17 ((D : Int))) 170 18 ((C : Int))) 170 20 1) 170 1 = 0 := ((if_neg (by omega)).trans ((if_neg (by omega)).trans (if_neg (by omega)))).trans hF1.2
        have t17 : (up2 (up2 (up2 s1.1 170 17 ((D : Int))) 170 18 ((C : Int))) 170 20 1) 170 17 = (D : Int) := (if_neg (by omega)).trans ((if_neg (by omega)).trans up_self)
        have t18 : (up2 (up2 (up2 s1.1 170 17 ((D : Int))) 170 18 ((C : Int))) 170 20 1) 170 18 = (C : Int) := (if_neg (by omega)).trans up_self
        have t20 : (up2 (up2 (up2 s1.1 170 17 ((D : Int))) 170 18 ((C : Int))) 170 20 1) 170 20 = 1 := up_self
        have hWT : CW D (up2 (up2 (up2 s1.1 170 17 ((D : Int))) 170 18 ((C : Int))) 170 20 1) := CW_at hD hW (fun k j a b => eT k j (by omega))
        rcases hA with ⟨_, q20⟩ | ⟨_, hH, h52, h55, h5, h6, h8, h9, h10⟩
        · exfalso; have q20 : (up2 (up2 (up2 s1.1 170 17 ((D : Int))) 170 18 ((C : Int))) 170 20 1) 170 20 = 0 := q20; omega
        have hSn : SI D C s6.1 := ⟨by have := hS.1; omega, by rw [hX2 170 1 (by unfold RS; omega)]; show 0 ≤ (up2 (up2 (up2 s1.1 170 17 ((D : Int))) 170 18 ((C : Int))) 170 20 1) 170 1 ∧ (up2 (up2 (up2 s1.1 170 17 ((D : Int))) 170 18 ((C : Int))) 170 20 1) 170 1 ≤ 2000; omega, (hX2 _ _ (by unfold RS; omega)).trans t17, (hX2 _ _ (by unfold RS; omega)).trans t18, SA_begin hD hWT hX2 t20 hH h52 h55 h5 h6 h8 h9 h10⟩
        refine wr_n (pc2 := 42) (lv2 := [(1, .ref C), (0, .ref 170)]) (st2 := [vi ((-2))]) 2 (fun _ _ => rfl) ?_
        refine wr_end (fun _ _ => rfl) ?_
        obtain ⟨zz1, zz2, zz3⟩ := hZ0 t20
        exact ⟨⟨⟨_, rfl, rfl⟩, hc2.trans hc1, RX_RF hX2 hRT, fun k j hk => (hX2 k j (by unfold RS; omega)).trans ((eT k j (by omega)).trans (hF1.1 k j (by unfold PS; omega) (by omega))), ⟨D, C, hSn⟩, (hX2 170 1 (by unfold RS; omega)).trans t1⟩, ⟨s9, b1, hq, .inr ⟨by omega, (hX2 170 20 (by unfold RS; omega)).trans t20, (hX2 170 17 (by unfold RS; omega)).trans t17, (hX2 170 18 (by unfold RS; omega)).trans t18, fun k j i1 i2 => (hX2 k j (by unfold RS; omega)).trans ((eT k j (by omega)).trans (rP_eq hg1 hg9 i1)), h52, h55, h5.trans (hX2 D 2 (by unfold RS; omega)).symm, h6, h8, h9, zz1, zz2, zz3⟩⟩⟩
    · refine wr_if1f rfl rfl (by unfold i32; omega) h3 ?_
      refine wr_n (pc2 := 8) (lv2 := [(0, .ref 170)]) (st2 := [.ref 170]) 1 (fun _ _ => rfl) ?_
      refine wr_get (v := vi (s1.1 170 8)) rfl rfl rfl (by decide) rfl fun h8 => ?_
      have h8 : -2147483648 ≤ s1.1 170 8 ∧ s1.1 170 8 ≤ 2147483647 := h8
      show wr (d + 520) tb_M121 11 [(0, .ref 170)] [vi (s1.1 170 8)] s1 _
      refine wr_reti rfl rfl ?_
      exact ⟨⟨⟨_, rfl, rfl⟩, hc1, hR1, fun k j hk => hF1.1 k j (by unfold PS; omega) (by omega), ⟨C, D, SI_FR0 hS hF1⟩, hF1.2⟩, ⟨s9, b1, hq, .inl ⟨by omega, fun k j hk => hF1.1 k j (by have := hS.1; unfold KPF at hk; unfold PS; omega) (by unfold KPF at hk; omega)⟩⟩⟩
