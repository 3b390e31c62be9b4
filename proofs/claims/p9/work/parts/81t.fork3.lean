set_option maxHeartbeats 20000000 in
set_option maxRecDepth 100000 in
theorem l_fork {d C b p n na w2 M : Nat} {F : Ph} {G : Nat → gB} {s : rS} {t u : Nat → Nat} {y : Nat → fR} {x0 : fR} (hC : C = 177 ∨ C = 186) (hR : RF s.1) (hM : MC C F na s.1) (hb7 : b < 700) (hst : s.1 170 52 = 2) (hn1 : 1 ≤ n ∧ n ≤ 6) (hp8 : p + 8 ≤ 24000) (hY : FY b n y x0) (ht : ∀ i, i < n → s.1 (C + 1) (p + 2 + i) = (t i : Int)) (hFk : ∀ i, i < n → F (t i) 0 (u i) (y i)) (hMM : M + bw (G b) (bn (G b)) = mu s.1 G + w2) (hw : w2 + sm u n < bw (G b) (bn (G b))) : ∀ (w k : Nat) (s1 : rS), n - k = w → k < n → RF s1.1 → RX s.1 s1.1 → HD s1.1 → s1.2 = s.2 → (s1.1 170 52 = s.1 170 52 ∧ s1.1 170 53 = s.1 170 53 ∧ s1.1 170 54 = s.1 170 54) → s.1 170 55 ≤ s1.1 170 55 → s1.1 206 b = 1 → FL F b n k y x0 M u s1.1 → wr (d + 1) tb_M169 36 [(5, vi 0), (4, vi ((k : Int))), (3, vi (((p + 2 : Nat) : Int))), (2, vi ((n : Int))), (0, .ref 170), (1, vi ((b : Int)))] [] s1 (ON F G b s) := by
  intro w
  induction w using Nat.strongRecOn with | ind w ih => ?_
  intro k s1 hkw hk hR1 hX1 hH1 hc1 hs2 h551 hb1 hL1
  have h55 : 1 ≤ s1.1 170 55 ∧ s1.1 170 55 ≤ 700 := by
    obtain ⟨G9, own9, z9, -⟩ := hL1
    have z8 := z9.1
    rw [show up2 s1.1 206 b 6 170 55 = s1.1 170 55 from up_nk (by omega)] at z8
    exact z8
  refine l_free hR1 h55 (fun o ho hno hx => ?_) _ 0 rfl (by omega) (fun c hc => absurd hc (by omega))
  have hrm : (o : Int) = s1.1 170 55 → s1.1 170 55 < 700 := fun e => FL_room hL1 hk hY (fun c hc => hno c (by omega))
  have htk := fun (_ : k < n) => ht k hk
  refine wr_n (pc2 := 64) (lv2 := [(5, vi ((o : Int))), (4, vi ((k : Int))), (3, vi (((p + 2 : Nat) : Int))), (2, vi ((n : Int))), (0, .ref 170), (1, vi ((b : Int)))]) (st2 := [.ref 170, vi ((o : Int))]) 2 (fun _ _ => rfl) ?_
  refine wr_get (v := vi (s1.1 170 55)) rfl rfl rfl (by decide) rfl fun h1 => ?_
  have h1 : -2147483648 ≤ s1.1 170 55 ∧ s1.1 170 55 ≤ 2147483647 := h1
  show wr (d + 1) tb_M169 67 [(5, vi ((o : Int))), (4, vi ((k : Int))), (3, vi (((p + 2 : Nat) : Int))), (2, vi ((n : Int))), (0, .ref 170), (1, vi ((b : Int)))] [vi (s1.1 170 55), vi ((o : Int))] s1 _
  by_cases h2 : (o : Int) ≠ s1.1 170 55
  · refine wr_if2t rfl rfl (by unfold i32; omega) (by unfold i32; omega) h2 ?_
    obtain ⟨sA, hsA⟩ : ∃ qq9 : rS, qq9 = s1 := ⟨_, rfl⟩
    rw [← hsA]
    have hA : ∀ k j, ¬ (k = 170 ∧ j = 55) → sA.1 k j = s1.1 k j := by rw [hsA]; intro k j e1; exact rfl
    have hA5 : sA.1 170 55 = s1.1 170 55 := by rw [hsA]
    have hAc : sA.2 = s1.2 := by rw [hsA]
    have hob : (o : Int) < s1.1 170 55 ∧ s1.1 206 o = 0 ∧ sA.1 170 55 = s1.1 170 55 ∨ (o : Int) = s1.1 170 55 ∧ sA.1 170 55 = s1.1 170 55 + 1 ∧ s1.1 170 55 < 700 := by omega
    have hAR : RF sA.1 := RX_RF (fun k j hn => hA k j (fun e => hn (by unfold RS; omega))) hR1
    have hq17 : sA.1 170 17 = (C : Int) := (hA 170 17 (by omega)).trans ((hX1 170 17 (by unfold RS; omega)).trans hM.1)
    show wr (d + 1) tb_M169 80 [(5, vi ((o : Int))), (4, vi ((k : Int))), (3, vi (((p + 2 : Nat) : Int))), (2, vi ((n : Int))), (0, .ref 170), (1, vi ((b : Int)))] [] sA _
    refine wr_n (pc2 := 84) (lv2 := [(5, vi ((o : Int))), (4, vi ((k : Int))), (3, vi (((p + 2 : Nat) : Int))), (2, vi ((n : Int))), (0, .ref 170), (1, vi ((b : Int)))]) (st2 := [.ref 170, vi ((o : Int)), .ref 170]) 3 (fun _ _ => rfl) ?_
    refine wr_get (v := .ref C) rfl rfl rfl (by decide) (rv_ref (show sA.1 170 17 = ((C : Nat) : Int) from hq17)) fun h3 => ?_
    show wr (d + 1) tb_M169 87 [(5, vi ((o : Int))), (4, vi ((k : Int))), (3, vi (((p + 2 : Nat) : Int))), (2, vi ((n : Int))), (0, .ref 170), (1, vi ((b : Int)))] [.ref C, vi ((o : Int)), .ref 170] sA _
    refine wr_get (v := .ref (C + 1)) rfl rfl (TG_C hC) (by decide) (rv_ref (hAR C 0 (C + 1) (rc_C0 hC))) fun h4 => ?_
    show wr (d + 1) tb_M169 90 [(5, vi ((o : Int))), (4, vi ((k : Int))), (3, vi (((p + 2 : Nat) : Int))), (2, vi ((n : Int))), (0, .ref 170), (1, vi ((b : Int)))] [.ref (C + 1), vi ((o : Int)), .ref 170] sA _
    refine wr_n (pc2 := 93) (lv2 := [(5, vi ((o : Int))), (4, vi ((k : Int))), (3, vi (((p + 2 : Nat) : Int))), (2, vi ((n : Int))), (0, .ref 170), (1, vi ((b : Int)))]) (st2 := [vi ((k : Int)), vi (((p + 2 : Nat) : Int)), .ref (C + 1), vi ((o : Int)), .ref 170]) 2 (fun _ _ => rfl) ?_
    refine wr_add (a := ((p + 2 : Nat) : Int)) (b := (k : Int)) rfl ?_
    show wr (d + 1) tb_M169 94 [(5, vi ((o : Int))), (4, vi ((k : Int))), (3, vi (((p + 2 : Nat) : Int))), (2, vi ((n : Int))), (0, .ref 170), (1, vi ((b : Int)))] [vi (((p + 2 : Nat) : Int) + ((k : Int))), .ref (C + 1), vi ((o : Int)), .ref 170] sA _
    refine wr_ald (a := ((p + 2 : Nat) : Int) + ((k : Int))) (v := vi (sA.1 (C + 1) ((((p + 2 : Nat) : Int) + ((k : Int))).toNat))) rfl (TG_C1 hC) rfl (by omega) (by omega) (by decide) rfl fun h5 => ?_
    have h5 : -2147483648 ≤ sA.1 (C + 1) ((((p + 2 : Nat) : Int) + ((k : Int))).toNat) ∧ sA.1 (C + 1) ((((p + 2 : Nat) : Int) + ((k : Int))).toNat) ≤ 2147483647 := h5
    show wr (d + 1) tb_M169 95 [(5, vi ((o : Int))), (4, vi ((k : Int))), (3, vi (((p + 2 : Nat) : Int))), (2, vi ((n : Int))), (0, .ref 170), (1, vi ((b : Int)))] [vi (sA.1 (C + 1) ((((p + 2 : Nat) : Int) + ((k : Int))).toNat)), vi ((o : Int)), .ref 170] sA _
    have hte : sA.1 (C + 1) (((p + 2 : Nat) : Int) + (k : Int)).toNat = ((t k : Nat) : Int) := by rw [show (((p + 2 : Nat) : Int) + (k : Int)).toNat = p + 2 + k by omega]; exact (hA (C + 1) _ (by omega)).trans ((hX1 (C + 1) _ (by unfold RS; omega)).trans (htk hk))
    rw [hte]
    show wr (d + 1) tb_M169 95 [(5, vi ((o : Int))), (4, vi ((k : Int))), (3, vi (((p + 2 : Nat) : Int))), (2, vi ((n : Int))), (0, .ref 170), (1, vi ((b : Int)))] [vi (((t k : Nat) : Int)), vi ((o : Int)), .ref 170] sA _
    refine wr_n (pc2 := 96) (lv2 := [(5, vi ((o : Int))), (4, vi ((k : Int))), (3, vi (((p + 2 : Nat) : Int))), (2, vi ((n : Int))), (0, .ref 170), (1, vi ((b : Int)))]) (st2 := [vi ((b : Int)), vi (((t k : Nat) : Int)), vi ((o : Int)), .ref 170]) 1 (fun _ _ => rfl) ?_
    refine wr_call1 (args := [vi ((o : Int)), vi (((t k : Nat) : Int)), vi ((b : Int))]) (rest := []) rfl rfl rfl rfl (Nat.le_of_ble_eq_true rfl) (cr_mono (x_make (d := d) _ hAR (by omega) (by unfold i32; omega) (by unfold i32; omega)) ?_)
    rintro s6 out ⟨rfl, hmc, hmf, hm5, hm6, hm8, hm9, hm10, hm11⟩
    · refine ⟨_, rfl, ?_⟩
      show wr (d + 1) tb_M169 99 [(5, vi ((o : Int))), (4, vi ((k : Int))), (3, vi (((p + 2 : Nat) : Int))), (2, vi ((n : Int))), (0, .ref 170), (1, vi ((b : Int)))] [] s6 _
      have hBf : ∀ k j, ¬ (205 ≤ k ∧ k ≤ 211 ∧ j = o) → ¬ (k = 170 ∧ j = 55) → s6.1 k j = s1.1 k j := fun k j e1 e2 => (hmf k j e1).trans (hA k j e2)
      have hB5 : s6.1 170 55 = sA.1 170 55 := hmf 170 55 (by omega)
      rw [← hB5] at hob
      obtain ⟨hL2, hobn⟩ := FL_next hL1 hk hY hb1 hob hBf hm5 hm6 hm8 hm9 hm10 (hFk k hk)
      have hBX : RX s.1 s6.1 := fun k j hn => (hBf k j (fun e => hn (by unfold RS; omega)) (fun e => hn (by unfold RS; omega))).trans (hX1 k j hn)
      have hBR : RF s6.1 := RX_RF hBX hR
      have hBH : HD s6.1 := HD_at hH1 (fun i => hBf 1630 i (by omega) (by omega))
      have hBc : s6.2 = s.2 := hmc.trans (hAc.trans hc1)
      have hBb : s6.1 206 b = 1 := (hBf 206 b (by omega) (by omega)).trans hb1
      have hB2 : s6.1 170 52 = s.1 170 52 ∧ s6.1 170 53 = s.1 170 53 ∧ s6.1 170 54 = s.1 170 54 := by rw [hBf 170 52 (by omega) (by omega), hBf 170 53 (by omega) (by omega), hBf 170 54 (by omega) (by omega)]; exact hs2
      have hB55 : s.1 170 55 ≤ s6.1 170 55 := by omega
      refine wr_inc (a := (k : Int)) rfl rfl ?_
      show wr (d + 1) tb_M169 102 [(4, vi ((k : Int) + 1)), (5, vi ((o : Int))), (3, vi (((p + 2 : Nat) : Int))), (2, vi ((n : Int))), (0, .ref 170), (1, vi ((b : Int)))] [] s6 _
      refine wr_n (pc2 := 30) (lv2 := [(4, vi ((k : Int) + 1)), (5, vi ((o : Int))), (3, vi (((p + 2 : Nat) : Int))), (2, vi ((n : Int))), (0, .ref 170), (1, vi ((b : Int)))]) (st2 := [vi ((n : Int)), vi ((k : Int) + 1)]) 3 (fun _ _ => rfl) ?_
      by_cases h8 : (n : Int) ≤ (k : Int) + 1
      · refine wr_if2t rfl rfl (by unfold i32; omega) (by unfold i32; omega) h8 ?_
        refine wr_n (pc2 := 106) (lv2 := [(4, vi ((k : Int) + 1)), (5, vi ((o : Int))), (3, vi (((p + 2 : Nat) : Int))), (2, vi ((n : Int))), (0, .ref 170), (1, vi ((b : Int)))]) (st2 := [.ref 170]) 1 (fun _ _ => rfl) ?_
        refine wr_get (v := .ref 211) rfl rfl rfl (by decide) (rv_ref (hBR 170 46 211 rfl)) fun h9 => ?_
        show wr (d + 1) tb_M169 109 [(4, vi ((k : Int) + 1)), (5, vi ((o : Int))), (3, vi (((p + 2 : Nat) : Int))), (2, vi ((n : Int))), (0, .ref 170), (1, vi ((b : Int)))] [.ref 211] s6 _
        refine wr_n (pc2 := 111) (lv2 := [(4, vi ((k : Int) + 1)), (5, vi ((o : Int))), (3, vi (((p + 2 : Nat) : Int))), (2, vi ((n : Int))), (0, .ref 170), (1, vi ((b : Int)))]) (st2 := [vi ((n : Int)), vi ((b : Int)), .ref 211]) 2 (fun _ _ => rfl) ?_
        refine wr_ast (a := (b : Int)) (z := (n : Int)) rfl (by decide) rfl rfl (by omega) (by omega) (by decide) rfl (show -2147483648 ≤ (n : Int) ∧ (n : Int) ≤ 2147483647 by omega) ?_
        show wr (d + 1) tb_M169 112 [(4, vi ((k : Int) + 1)), (5, vi ((o : Int))), (3, vi (((p + 2 : Nat) : Int))), (2, vi ((n : Int))), (0, .ref 170), (1, vi ((b : Int)))] [] (up2 s6.1 211 b ((n : Int)), s6.2) _
        have hR10 : RF (up2 s6.1 211 b ((n : Int))) := (RF_up hBR rfl)
        refine wr_n (pc2 := 113) (lv2 := [(4, vi ((k : Int) + 1)), (5, vi ((o : Int))), (3, vi (((p + 2 : Nat) : Int))), (2, vi ((n : Int))), (0, .ref 170), (1, vi ((b : Int)))]) (st2 := [.ref 170]) 1 (fun _ _ => rfl) ?_
        refine wr_get (v := .ref 206) rfl rfl rfl (by decide) (rv_ref (hR10 170 41 206 rfl)) fun h11 => ?_
        show wr (d + 1) tb_M169 116 [(4, vi ((k : Int) + 1)), (5, vi ((o : Int))), (3, vi (((p + 2 : Nat) : Int))), (2, vi ((n : Int))), (0, .ref 170), (1, vi ((b : Int)))] [.ref 206] (up2 s6.1 211 b ((n : Int)), s6.2) _
        refine wr_n (pc2 := 119) (lv2 := [(4, vi ((k : Int) + 1)), (5, vi ((o : Int))), (3, vi (((p + 2 : Nat) : Int))), (2, vi ((n : Int))), (0, .ref 170), (1, vi ((b : Int)))]) (st2 := [vi 6, vi ((b : Int)), .ref 206]) 2 (fun _ _ => rfl) ?_
        refine wr_ast (a := (b : Int)) (z := 6) rfl (by decide) rfl rfl (by omega) (by omega) (by decide) rfl (show -2147483648 ≤ 6 ∧ 6 ≤ 2147483647 by omega) ?_
        show wr (d + 1) tb_M169 120 [(4, vi ((k : Int) + 1)), (5, vi ((o : Int))), (3, vi (((p + 2 : Nat) : Int))), (2, vi ((n : Int))), (0, .ref 170), (1, vi ((b : Int)))] [] (up2 (up2 s6.1 211 b ((n : Int))) 206 b 6, s6.2) _
        have hR12 : RF (up2 (up2 s6.1 211 b ((n : Int))) 206 b 6) := (RF_up (RF_up hBR rfl) rfl)
        refine wr_end (fun _ _ => rfl) ?_
        have hkn : k + 1 = n := by omega
        rw [hkn] at hL2
        obtain ⟨sz, hsz⟩ : ∃ qq9 : rS, qq9 = (up2 (up2 s6.1 211 b ((n : Int))) 206 b 6, s6.2) := ⟨_, rfl⟩
        rw [← hsz]
        have hzf : ∀ i j, ¬ (i = 211 ∧ j = b) → sz.1 i j = up2 s6.1 206 b 6 i j := by
          rw [hsz]; intro i j e1
          show up2 (up2 s6.1 211 b _) 206 b 6 i j = up2 s6.1 206 b 6 i j
          by_cases e : i = 206 ∧ j = b
          · obtain ⟨rfl, rfl⟩ := e; rw [up_self, up_self]
          · exact ((if_neg e).trans (if_neg e1)).trans (if_neg e).symm
        have hz1 : ∀ i j, ¬ (i = 211 ∧ j = b) → ¬ (i = 206 ∧ j = b) → sz.1 i j = s6.1 i j := fun i j e1 e2 => (hzf i j e1).trans (if_neg e2)
        exact ST_fork (s := s) (r := s6.1) hR hst hn1.1 (fun k j hn => (hz1 k j (fun e => hn (by unfold RS; omega)) (fun e => hn (by unfold RS; omega))).trans (hBX k j hn)) (HD_at hBH (fun i => (hz1 1630 i (by omega) (by omega)))) (by rw [hsz]; exact hBc) ((hz1 170 52 (by omega) (by omega)).trans hB2.1) ((hz1 170 53 (by omega) (by omega)).trans hB2.2.1) ((hz1 170 54 (by omega) (by omega)).trans hB2.2.2) (by rw [(hz1 170 55 (by omega) (by omega))]; exact hB55) hL2 hMM hw hzf (by rw [hsz]; show up2 (up2 s6.1 211 b _) 206 b 6 211 b = _; rw [up_nk (by omega)]; exact up_self)
      · refine wr_if2f rfl rfl (by unfold i32; omega) (by unfold i32; omega) h8 ?_
        refine wr_n (pc2 := 36) (lv2 := [(5, vi 0), (4, vi ((k : Int) + 1)), (3, vi (((p + 2 : Nat) : Int))), (2, vi ((n : Int))), (0, .ref 170), (1, vi ((b : Int)))]) (st2 := []) 2 (fun _ _ => rfl) ?_
        rw [show (k : Int) + 1 = ((k + 1 : Nat) : Int) by omega]
        exact ih _ (by omega) (k + 1) s6 rfl (by omega) hBR hBX hBH hBc hB2 hB55 hBb hL2
  · refine wr_if2f rfl rfl (by unfold i32; omega) (by unfold i32; omega) h2 ?_
    refine wr_n (pc2 := 72) (lv2 := [(5, vi ((o : Int))), (4, vi ((k : Int))), (3, vi (((p + 2 : Nat) : Int))), (2, vi ((n : Int))), (0, .ref 170), (1, vi ((b : Int)))]) (st2 := [.ref 170, .ref 170]) 2 (fun _ _ => rfl) ?_
    refine wr_get (v := vi (s1.1 170 55)) rfl rfl rfl (by decide) rfl fun h13 => ?_
    have h13 : -2147483648 ≤ s1.1 170 55 ∧ s1.1 170 55 ≤ 2147483647 := h13
    show wr (d + 1) tb_M169 75 [(5, vi ((o : Int))), (4, vi ((k : Int))), (3, vi (((p + 2 : Nat) : Int))), (2, vi ((n : Int))), (0, .ref 170), (1, vi ((b : Int)))] [vi (s1.1 170 55), .ref 170] s1 _
    refine wr_n (pc2 := 76) (lv2 := [(5, vi ((o : Int))), (4, vi ((k : Int))), (3, vi (((p + 2 : Nat) : Int))), (2, vi ((n : Int))), (0, .ref 170), (1, vi ((b : Int)))]) (st2 := [vi 1, vi (s1.1 170 55), .ref 170]) 1 (fun _ _ => rfl) ?_
    refine wr_add (a := s1.1 170 55) (b := 1) rfl ?_
    show wr (d + 1) tb_M169 77 [(5, vi ((o : Int))), (4, vi ((k : Int))), (3, vi (((p + 2 : Nat) : Int))), (2, vi ((n : Int))), (0, .ref 170), (1, vi ((b : Int)))] [vi (s1.1 170 55 + 1), .ref 170] s1 _
    refine wr_put (z := s1.1 170 55 + 1) rfl rfl rfl rfl (by decide) rfl (by decide) rfl (show -2147483648 ≤ s1.1 170 55 + 1 ∧ s1.1 170 55 + 1 ≤ 2147483647 by omega) (hf_int' _) ?_
    show wr (d + 1) tb_M169 80 [(5, vi ((o : Int))), (4, vi ((k : Int))), (3, vi (((p + 2 : Nat) : Int))), (2, vi ((n : Int))), (0, .ref 170), (1, vi ((b : Int)))] [] (up2 s1.1 170 55 (s1.1 170 55 + 1), s1.2) _
    have hR14 : RF (up2 s1.1 170 55 (s1.1 170 55 + 1)) := (RF_up hR1 rfl)
    obtain ⟨sA, hsA⟩ : ∃ qq9 : rS, qq9 = (up2 s1.1 170 55 (s1.1 170 55 + 1), s1.2) := ⟨_, rfl⟩
    rw [← hsA]
    have hA : ∀ k j, ¬ (k = 170 ∧ j = 55) → sA.1 k j = s1.1 k j := by rw [hsA]; intro k j e1; exact if_neg e1
    have hA5 : sA.1 170 55 = s1.1 170 55 + 1 := by rw [hsA]; show up2 s1.1 170 55 _ 170 55 = _; exact up_self
    have hAc : sA.2 = s1.2 := by rw [hsA]
    have hob : (o : Int) < s1.1 170 55 ∧ s1.1 206 o = 0 ∧ sA.1 170 55 = s1.1 170 55 ∨ (o : Int) = s1.1 170 55 ∧ sA.1 170 55 = s1.1 170 55 + 1 ∧ s1.1 170 55 < 700 := by omega
    have hAR : RF sA.1 := RX_RF (fun k j hn => hA k j (fun e => hn (by unfold RS; omega))) hR1
    have hq17 : sA.1 170 17 = (C : Int) := (hA 170 17 (by omega)).trans ((hX1 170 17 (by unfold RS; omega)).trans hM.1)
    show wr (d + 1) tb_M169 80 [(5, vi ((o : Int))), (4, vi ((k : Int))), (3, vi (((p + 2 : Nat) : Int))), (2, vi ((n : Int))), (0, .ref 170), (1, vi ((b : Int)))] [] sA _
    refine wr_n (pc2 := 84) (lv2 := [(5, vi ((o : Int))), (4, vi ((k : Int))), (3, vi (((p + 2 : Nat) : Int))), (2, vi ((n : Int))), (0, .ref 170), (1, vi ((b : Int)))]) (st2 := [.ref 170, vi ((o : Int)), .ref 170]) 3 (fun _ _ => rfl) ?_
    refine wr_get (v := .ref C) rfl rfl rfl (by decide) (rv_ref (show sA.1 170 17 = ((C : Nat) : Int) from hq17)) fun h15 => ?_
    show wr (d + 1) tb_M169 87 [(5, vi ((o : Int))), (4, vi ((k : Int))), (3, vi (((p + 2 : Nat) : Int))), (2, vi ((n : Int))), (0, .ref 170), (1, vi ((b : Int)))] [.ref C, vi ((o : Int)), .ref 170] sA _
    refine wr_get (v := .ref (C + 1)) rfl rfl (TG_C hC) (by decide) (rv_ref (hAR C 0 (C + 1) (rc_C0 hC))) fun h16 => ?_
    show wr (d + 1) tb_M169 90 [(5, vi ((o : Int))), (4, vi ((k : Int))), (3, vi (((p + 2 : Nat) : Int))), (2, vi ((n : Int))), (0, .ref 170), (1, vi ((b : Int)))] [.ref (C + 1), vi ((o : Int)), .ref 170] sA _
    refine wr_n (pc2 := 93) (lv2 := [(5, vi ((o : Int))), (4, vi ((k : Int))), (3, vi (((p + 2 : Nat) : Int))), (2, vi ((n : Int))), (0, .ref 170), (1, vi ((b : Int)))]) (st2 := [vi ((k : Int)), vi (((p + 2 : Nat) : Int)), .ref (C + 1), vi ((o : Int)), .ref 170]) 2 (fun _ _ => rfl) ?_
    refine wr_add (a := ((p + 2 : Nat) : Int)) (b := (k : Int)) rfl ?_
    show wr (d + 1) tb_M169 94 [(5, vi ((o : Int))), (4, vi ((k : Int))), (3, vi (((p + 2 : Nat) : Int))), (2, vi ((n : Int))), (0, .ref 170), (1, vi ((b : Int)))] [vi (((p + 2 : Nat) : Int) + ((k : Int))), .ref (C + 1), vi ((o : Int)), .ref 170] sA _
    refine wr_ald (a := ((p + 2 : Nat) : Int) + ((k : Int))) (v := vi (sA.1 (C + 1) ((((p + 2 : Nat) : Int) + ((k : Int))).toNat))) rfl (TG_C1 hC) rfl (by omega) (by omega) (by decide) rfl fun h17 => ?_
    have h17 : -2147483648 ≤ sA.1 (C + 1) ((((p + 2 : Nat) : Int) + ((k : Int))).toNat) ∧ sA.1 (C + 1) ((((p + 2 : Nat) : Int) + ((k : Int))).toNat) ≤ 2147483647 := h17
    show wr (d + 1) tb_M169 95 [(5, vi ((o : Int))), (4, vi ((k : Int))), (3, vi (((p + 2 : Nat) : Int))), (2, vi ((n : Int))), (0, .ref 170), (1, vi ((b : Int)))] [vi (sA.1 (C + 1) ((((p + 2 : Nat) : Int) + ((k : Int))).toNat)), vi ((o : Int)), .ref 170] sA _
    have hte : sA.1 (C + 1) (((p + 2 : Nat) : Int) + (k : Int)).toNat = ((t k : Nat) : Int) := by rw [show (((p + 2 : Nat) : Int) + (k : Int)).toNat = p + 2 + k by omega]; exact (hA (C + 1) _ (by omega)).trans ((hX1 (C + 1) _ (by unfold RS; omega)).trans (htk hk))
    rw [hte]
    show wr (d + 1) tb_M169 95 [(5, vi ((o : Int))), (4, vi ((k : Int))), (3, vi (((p + 2 : Nat) : Int))), (2, vi ((n : Int))), (0, .ref 170), (1, vi ((b : Int)))] [vi (((t k : Nat) : Int)), vi ((o : Int)), .ref 170] sA _
    refine wr_n (pc2 := 96) (lv2 := [(5, vi ((o : Int))), (4, vi ((k : Int))), (3, vi (((p + 2 : Nat) : Int))), (2, vi ((n : Int))), (0, .ref 170), (1, vi ((b : Int)))]) (st2 := [vi ((b : Int)), vi (((t k : Nat) : Int)), vi ((o : Int)), .ref 170]) 1 (fun _ _ => rfl) ?_
    refine wr_call1 (args := [vi ((o : Int)), vi (((t k : Nat) : Int)), vi ((b : Int))]) (rest := []) rfl rfl rfl rfl (Nat.le_of_ble_eq_true rfl) (cr_mono (x_make (d := d) _ hAR (by omega) (by unfold i32; omega) (by unfold i32; omega)) ?_)
    rintro s18 out ⟨rfl, hmc, hmf, hm5, hm6, hm8, hm9, hm10, hm11⟩
    · refine ⟨_, rfl, ?_⟩
      show wr (d + 1) tb_M169 99 [(5, vi ((o : Int))), (4, vi ((k : Int))), (3, vi (((p + 2 : Nat) : Int))), (2, vi ((n : Int))), (0, .ref 170), (1, vi ((b : Int)))] [] s18 _
      have hBf : ∀ k j, ¬ (205 ≤ k ∧ k ≤ 211 ∧ j = o) → ¬ (k = 170 ∧ j = 55) → s18.1 k j = s1.1 k j := fun k j e1 e2 => (hmf k j e1).trans (hA k j e2)
      have hB5 : s18.1 170 55 = sA.1 170 55 := hmf 170 55 (by omega)
      rw [← hB5] at hob
      obtain ⟨hL2, hobn⟩ := FL_next hL1 hk hY hb1 hob hBf hm5 hm6 hm8 hm9 hm10 (hFk k hk)
      have hBX : RX s.1 s18.1 := fun k j hn => (hBf k j (fun e => hn (by unfold RS; omega)) (fun e => hn (by unfold RS; omega))).trans (hX1 k j hn)
      have hBR : RF s18.1 := RX_RF hBX hR
      have hBH : HD s18.1 := HD_at hH1 (fun i => hBf 1630 i (by omega) (by omega))
      have hBc : s18.2 = s.2 := hmc.trans (hAc.trans hc1)
      have hBb : s18.1 206 b = 1 := (hBf 206 b (by omega) (by omega)).trans hb1
      have hB2 : s18.1 170 52 = s.1 170 52 ∧ s18.1 170 53 = s.1 170 53 ∧ s18.1 170 54 = s.1 170 54 := by rw [hBf 170 52 (by omega) (by omega), hBf 170 53 (by omega) (by omega), hBf 170 54 (by omega) (by omega)]; exact hs2
      have hB55 : s.1 170 55 ≤ s18.1 170 55 := by omega
      refine wr_inc (a := (k : Int)) rfl rfl ?_
      show wr (d + 1) tb_M169 102 [(4, vi ((k : Int) + 1)), (5, vi ((o : Int))), (3, vi (((p + 2 : Nat) : Int))), (2, vi ((n : Int))), (0, .ref 170), (1, vi ((b : Int)))] [] s18 _
      refine wr_n (pc2 := 30) (lv2 := [(4, vi ((k : Int) + 1)), (5, vi ((o : Int))), (3, vi (((p + 2 : Nat) : Int))), (2, vi ((n : Int))), (0, .ref 170), (1, vi ((b : Int)))]) (st2 := [vi ((n : Int)), vi ((k : Int) + 1)]) 3 (fun _ _ => rfl) ?_
      by_cases h20 : (n : Int) ≤ (k : Int) + 1
      · refine wr_if2t rfl rfl (by unfold i32; omega) (by unfold i32; omega) h20 ?_
        refine wr_n (pc2 := 106) (lv2 := [(4, vi ((k : Int) + 1)), (5, vi ((o : Int))), (3, vi (((p + 2 : Nat) : Int))), (2, vi ((n : Int))), (0, .ref 170), (1, vi ((b : Int)))]) (st2 := [.ref 170]) 1 (fun _ _ => rfl) ?_
        refine wr_get (v := .ref 211) rfl rfl rfl (by decide) (rv_ref (hBR 170 46 211 rfl)) fun h21 => ?_
        show wr (d + 1) tb_M169 109 [(4, vi ((k : Int) + 1)), (5, vi ((o : Int))), (3, vi (((p + 2 : Nat) : Int))), (2, vi ((n : Int))), (0, .ref 170), (1, vi ((b : Int)))] [.ref 211] s18 _
        refine wr_n (pc2 := 111) (lv2 := [(4, vi ((k : Int) + 1)), (5, vi ((o : Int))), (3, vi (((p + 2 : Nat) : Int))), (2, vi ((n : Int))), (0, .ref 170), (1, vi ((b : Int)))]) (st2 := [vi ((n : Int)), vi ((b : Int)), .ref 211]) 2 (fun _ _ => rfl) ?_
        refine wr_ast (a := (b : Int)) (z := (n : Int)) rfl (by decide) rfl rfl (by omega) (by omega) (by decide) rfl (show -2147483648 ≤ (n : Int) ∧ (n : Int) ≤ 2147483647 by omega) ?_
        show wr (d + 1) tb_M169 112 [(4, vi ((k : Int) + 1)), (5, vi ((o : Int))), (3, vi (((p + 2 : Nat) : Int))), (2, vi ((n : Int))), (0, .ref 170), (1, vi ((b : Int)))] [] (up2 s18.1 211 b ((n : Int)), s18.2) _
        have hR22 : RF (up2 s18.1 211 b ((n : Int))) := (RF_up hBR rfl)
        refine wr_n (pc2 := 113) (lv2 := [(4, vi ((k : Int) + 1)), (5, vi ((o : Int))), (3, vi (((p + 2 : Nat) : Int))), (2, vi ((n : Int))), (0, .ref 170), (1, vi ((b : Int)))]) (st2 := [.ref 170]) 1 (fun _ _ => rfl) ?_
        refine wr_get (v := .ref 206) rfl rfl rfl (by decide) (rv_ref (hR22 170 41 206 rfl)) fun h23 => ?_
        show wr (d + 1) tb_M169 116 [(4, vi ((k : Int) + 1)), (5, vi ((o : Int))), (3, vi (((p + 2 : Nat) : Int))), (2, vi ((n : Int))), (0, .ref 170), (1, vi ((b : Int)))] [.ref 206] (up2 s18.1 211 b ((n : Int)), s18.2) _
        refine wr_n (pc2 := 119) (lv2 := [(4, vi ((k : Int) + 1)), (5, vi ((o : Int))), (3, vi (((p + 2 : Nat) : Int))), (2, vi ((n : Int))), (0, .ref 170), (1, vi ((b : Int)))]) (st2 := [vi 6, vi ((b : Int)), .ref 206]) 2 (fun _ _ => rfl) ?_
        refine wr_ast (a := (b : Int)) (z := 6) rfl (by decide) rfl rfl (by omega) (by omega) (by decide) rfl (show -2147483648 ≤ 6 ∧ 6 ≤ 2147483647 by omega) ?_
        show wr (d + 1) tb_M169 120 [(4, vi ((k : Int) + 1)), (5, vi ((o : Int))), (3, vi (((p + 2 : Nat) : Int))), (2, vi ((n : Int))), (0, .ref 170), (1, vi ((b : Int)))] [] (up2 (up2 s18.1 211 b ((n : Int))) 206 b 6, s18.2) _
        have hR24 : RF (up2 (up2 s18.1 211 b ((n : Int))) 206 b 6) := (RF_up (RF_up hBR rfl) rfl)
        refine wr_end (fun _ _ => rfl) ?_
        have hkn : k + 1 = n := by omega
        rw [hkn] at hL2
        obtain ⟨sz, hsz⟩ : ∃ qq9 : rS, qq9 = (up2 (up2 s18.1 211 b ((n : Int))) 206 b 6, s18.2) := ⟨_, rfl⟩
        rw [← hsz]
        have hzf : ∀ i j, ¬ (i = 211 ∧ j = b) → sz.1 i j = up2 s18.1 206 b 6 i j := by
          rw [hsz]; intro i j e1
          show up2 (up2 s18.1 211 b _) 206 b 6 i j = up2 s18.1 206 b 6 i j
          by_cases e : i = 206 ∧ j = b
          · obtain ⟨rfl, rfl⟩ := e; rw [up_self, up_self]
          · exact ((if_neg e).trans (if_neg e1)).trans (if_neg e).symm
        have hz1 : ∀ i j, ¬ (i = 211 ∧ j = b) → ¬ (i = 206 ∧ j = b) → sz.1 i j = s18.1 i j := fun i j e1 e2 => (hzf i j e1).trans (if_neg e2)
        exact ST_fork (s := s) (r := s18.1) hR hst hn1.1 (fun k j hn => (hz1 k j (fun e => hn (by unfold RS; omega)) (fun e => hn (by unfold RS; omega))).trans (hBX k j hn)) (HD_at hBH (fun i => (hz1 1630 i (by omega) (by omega)))) (by rw [hsz]; exact hBc) ((hz1 170 52 (by omega) (by omega)).trans hB2.1) ((hz1 170 53 (by omega) (by omega)).trans hB2.2.1) ((hz1 170 54 (by omega) (by omega)).trans hB2.2.2) (by rw [(hz1 170 55 (by omega) (by omega))]; exact hB55) hL2 hMM hw hzf (by rw [hsz]; show up2 (up2 s18.1 211 b _) 206 b 6 211 b = _; rw [up_nk (by omega)]; exact up_self)
      · refine wr_if2f rfl rfl (by unfold i32; omega) (by unfold i32; omega) h20 ?_
        refine wr_n (pc2 := 36) (lv2 := [(5, vi 0), (4, vi ((k : Int) + 1)), (3, vi (((p + 2 : Nat) : Int))), (2, vi ((n : Int))), (0, .ref 170), (1, vi ((b : Int)))]) (st2 := []) 2 (fun _ _ => rfl) ?_
        rw [show (k : Int) + 1 = ((k + 1 : Nat) : Int) by omega]
        exact ih _ (by omega) (k + 1) s18 rfl (by omega) hBR hBX hBH hBc hB2 hB55 hBb hL2
