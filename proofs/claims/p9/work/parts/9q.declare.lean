/-! declare(..), in both. -/
section DECB
variable {T : Nat → Int} {n e N : Nat} {g : Gtt} {s t s2 t2 : tab} {rc : MRq} {u : Int}
theorem H_lex {s3 t3 : tab} (hL : RLx T n e s3 t3) (h : RNm T n N s t ∧ RCt s t ∧ RRu u s t ∧ RPf s t ∧ RSc N s t ∧ RSu N s) (hs : ∀ k j, ¬ (k = 137 ∧ j = 5) → s3 k j = s k j) (hi : s 137 5 ≤ s3 137 5) (ht : ∀ k j, ¬ lexs k j → t3 k j = t k j) : RHx T n e N u s3 t3 := by
  obtain ⟨⟨a1, a2, a3, a4, a5⟩, b, c, p, ⟨c1, c2, c3, c4⟩, d⟩ := h
  have cc : ∀ k j, k ≠ 137 → s3 k j = s k j := fun k j q => hs k j (by omega)
  have rr : ∀ k j, k ≠ 170 → t3 k j = t k j := fun k j q => ht k j (by unfold lexs; omega)
  refine ⟨hL, ⟨(cc 105 3 (by omega)).trans a1, (ht 170 14 (by unfold lexs; omega)).trans a2, ⟨a3.1, UN_fr a3.2 (fun j _ => cc 106 j (by omega)) (fun j _ => rr 176 j (by omega))⟩, fun j hj => ?_, fun j hj => ?_⟩, fun q hq => ?_, fun r hr1 hr2 => ?_, ?_, ⟨?_, ?_, ?_, fun j hj => ?_⟩, ?_⟩
  · obtain ⟨a, b, z1, z2, z3, z4, z5, z6⟩ := a4 j hj
    exact ⟨a, b, (rr 172 j (by omega)).trans z1, (rr 173 j (by omega)).trans z2, z3, z4, z5, (cc 106 j (by omega)).trans z6⟩
  · rw [rr 174 j (by omega), rr 175 j (by omega), cc 107 j (by omega), cc 108 j (by omega), cc 109 _ (by omega)]
    exact a5 j hj
  · rw [rr 177 _ (by omega), cc 109 q (by omega)]
    exact b q hq
  · rw [cc 109 5 (by omega)] at hr1
    rw [rr 201 r (by omega), cc 112 r (by omega), cc 134 r (by omega), cc 135 r (by omega), cc 136 r (by omega), rr 195 r (by omega), rr 196 r (by omega), rr 197 r (by omega), rr 198 r (by omega), rr 199 r (by omega)]
    exact c r hr1 hr2
  · unfold RPf
    rw [cc 131 3 (by omega), ht 170 21 (by unfold lexs; omega)]
    exact p
  · rw [ht 170 15 (by unfold lexs; omega)]
    exact c1
  · rw [ht 170 15 (by unfold lexs; omega), ht 170 16 (by unfold lexs; omega)]
    exact c2
  · rw [ht 170 16 (by unfold lexs; omega)]
    omega
  · rw [ht 170 16 (by unfold lexs; omega), rr 176 j (by omega)]
    exact c4 j hj
  · unfold RSu
    rw [cc 109 0 (by omega), cc 109 1 (by omega), cc 109 2 (by omega), cc 109 3 (by omega), cc 109 4 (by omega), cc 109 5 (by omega)]
    exact d
theorem RH_find (h : RHx T n e N u s t) (hk : kkd s = 1) : rG 9 [] t = some (some (fdn s (vlu s) 0, t)) ∧ fdn s (vlu s) 0 < (N : Int) ∧ -1 ≤ fdn s (vlu s) 0 := by
  obtain ⟨hL, ⟨a1, a2, a3, a4, a5⟩, _⟩ := h
  have hk2 := RL_kk hL
  rw [hk] at hk2
  obtain ⟨hp, hl⟩ := kd_name hk2.symm
  have hv := RL_vl hL (.inl hk)
  have e1 : vl9 T n (pls T n (s 137 5).toNat) = wdn T (pls T n (s 137 5).toNat) (nx T n (pls T n (s 137 5).toNat) - pls T n (s 137 5).toNat) := by
    unfold vl9 nx
    rw [if_pos hl, if_neg (by omega), if_pos hl]
  have hf := r_find hL.2.1 hL.2.2.2.2 hp hl a2 (by omega) a4
  rw [← e1, ← hv, fdw_fdl] at hf
  have hl2 := fdl_lt (t := s) (w := vlu s) N
  have e2 : fdn s (vlu s) 0 = fdl s (vlu s) N := by
    unfold fdn
    rw [show mxx 0 0 = 0 from by decide, a1, Int.toNat_natCast]
    split <;> omega
  rw [e2]
  exact ⟨hf, hl2.1, hl2.2⟩
theorem c_dec {b w : Int} {c : Nat} (h3 : s 105 3 = (N : Int)) (hN : s 109 c < LIM c → N < 58) (hw : 0 ≤ w ∧ w ≤ 6) (hcw : kcn w = c) : cG 31 [w, b] s = if kkd s ≠ 1 then some none else if 0 ≤ fdn s (vlu s) b then some none else if LIM c ≤ s 109 c then some none else some (some (s 109 c, stp (cnm s N c w (s 109 c)))) := by
  rw [cG_37]
  unfold cM37
  by_cases k1 : kkd s ≠ 1
  · rw [if_pos k1, if_pos k1]
  · rw [if_neg k1, if_neg k1]
    by_cases k2 : 0 ≤ fdn s (vlu s) b
    · rw [if_pos k2, if_pos k2]
    · rw [if_neg k2, if_neg k2]
      have hn : ∀ hl : ¬ LIM c ≤ s 109 c, nad (up2 s 109 c (s 109 c + 1)) (vlu (up2 s 109 c (s 109 c + 1))) w (s 109 c) = cnm s N c w (s 109 c) := fun hl => by
        rw [nad_e (N := N) (show (up2 s 109 c (s 109 c + 1)) 105 3 = (N : Int) from (if_neg (by omega)).trans h3) (hN (by omega))]
        rfl
      by_cases k3 : w ≠ 6
      · have hc : w.toNat = c := by rw [← hcw]; unfold kcn; rw [if_neg k3]
        rw [if_pos k3, if_neg (by omega), if_neg (by omega), hc]
        by_cases k4 : LIM c ≤ s 109 c
        · rw [if_pos k4, if_pos k4]
        · rw [if_neg k4, if_neg k4, hn k4]
      · have hc : 5 = c := by rw [← hcw]; unfold kcn; rw [if_pos (by omega)]
        subst hc
        rw [if_neg k3]
        by_cases k4 : LIM 5 ≤ s 109 5
        · rw [if_pos k4, if_pos k4]
        · rw [if_neg k4, if_neg k4, hn k4]
/-- what declaring keeps -/
def DFc (s s2 : tab) : Prop := (∀ k j, ¬ (k = 137 ∧ j = 5) → ¬ (105 ≤ k ∧ k ≤ 109) → s2 k j = s k j) ∧ s2 137 5 = s 137 5 + 1
def DFr (N : Nat) (t t2 : tab) : Prop := (∀ k j, ¬ lexs k j → ¬ (172 ≤ k ∧ k ≤ 177 ∧ ¬ (k = 177 ∧ (j < 4 ∨ 9 < j))) → ¬ (k = 170 ∧ j = 14) → t2 k j = t k j) ∧ ∀ k j : Nat, 172 ≤ k ∧ k ≤ 176 → j < N → t2 k j = t k j
theorem fd_le {v : Int} : ∀ (m j : Nat), j < m → s 106 j = v → (j : Int) ≤ fdl s v m
  | 0, j, h, _ => absurd h (Nat.not_lt_zero _)
  | m + 1, j, h, e => by
    show (j : Int) ≤ if s 106 m = v then (m : Int) else fdl s v m
    by_cases c : s 106 m = v
    · rw [if_pos c]
      omega
    · rw [if_neg c]
      have : j ≠ m := fun q => c (by rw [← q]; exact e)
      exact fd_le m j (by omega) e
theorem p_dec (h : RHx T n e N u s t) {b w m : Int} {c : Nat} (hc : c < 6) (hm : s 109 c = m) (hw : 0 ≤ w ∧ w ≤ 6) (hcw : kcn w = c) {u2 : Int} (hu : (c ≠ 5 ∧ u2 = u) ∨ (c = 5 ∧ u2 = m ∧ u = -1)) (hsc : SCb N b t) (hk : kkd s = 1) (hl : m < LIM c) : (cG 31 [w, b] s = some none ∧ rG 10 [w, m] t = some (some (0, t))) ∨ ∃ t2, rG 10 [w, m] t = some (some (1, t2)) ∧ cG 31 [w, b] s = some (some (m, stp (cnm s N c w m))) ∧ RHx T n e (N + 1) u2 (stp (cnm s N c w m)) (up2 t2 177 (4 + c) (m + 1)) ∧ SCb (N + 1) b (up2 t2 177 (4 + c) (m + 1)) ∧ DFc s (stp (cnm s N c w m)) ∧ DFr N t (up2 t2 177 (4 + c) (m + 1)) ∧ t2 177 (4 + c) = m ∧ (∀ j : Nat, j < N → (stp (cnm s N c w m)) 107 j = s 107 j ∧ (stp (cnm s N c w m)) 108 j = s 108 j) ∧ (stp (cnm s N c w m)) 107 N = w ∧ (stp (cnm s N c w m)) 108 N = m ∧ (∀ d : Nat, (stp (cnm s N c w m)) 109 d = if d = c then m + 1 else s 109 d) := by
  obtain ⟨hN, hL, hrest⟩ := H_name h hk hc hm hl hw hcw hu
  obtain ⟨f1, f2, f3⟩ := RH_find h hk
  have hcd := c_dec (b := b) (w := w) (c := c) h.2.1.1 (fun _ => hN) hw hcw
  rw [if_neg (fun q => q hk), hm, fdn_b hsc.1] at hcd
  have h14 : t 170 14 = (N : Int) := h.2.1.2.1
  obtain ⟨k, hkd⟩ : ∃ k, k = fdn s (vlu s) 0 := ⟨_, rfl⟩
  rw [← hkd] at f1 f2 f3 hcd
  rw [rG_133]
  unfold rM133
  rw [f1, bo_s, h14, Int.toNat_natCast, ipl_e (by omega)]
  have hup : up2 (up2 (up2 (up2 (up2 (up2 t 172 N (t 170 5)) 173 N (t 170 6)) 174 N w) 175 N m) 176 N (t 170 15)) 170 14 ((N : Int) + 1) = rnm t N w m := rfl
  rw [hup]
  have hL2 : RLx T n e (cnm s N c w m) (rnm t N w m) := by
    obtain ⟨q1, q2, q3, q4, q5⟩ := hL
    exact ⟨q1, q2, q3, q4, q5⟩
  have kk1 : kkd (cnm s N c w m) = 1 := by
    rw [← hk]
    unfold kkd
    rw [cnm_o 137 5 (by omega), cnm_o 139 _ (by omega)]
  obtain ⟨t2, a1, a2, a3, a4⟩ := RL_step hL2 (by omega) (by omega)
  have hse := stp_e hL2 (by omega) (by omega)
  have stk : ∀ q j, ¬ (q = 137 ∧ j = 5) → (stp (cnm s N c w m)) q j = (cnm s N c w m) q j := fun q j z => by rw [hse]; exact if_neg z
  have yes : (∀ j, j < N → t 176 j = t 170 15 → s 106 j ≠ vlu s) → ∃ t2, (bo (rG 4 [] (rnm t N w m)) fun z29 t29 => some (some ((1 : Int), t29))) = some (some (1, t2)) ∧ some (some (m, stp (cnm s N c w m))) = some (some (m, stp (cnm s N c w m))) ∧ RHx T n e (N + 1) u2 (stp (cnm s N c w m)) (up2 t2 177 (4 + c) (m + 1)) ∧ SCb (N + 1) b (up2 t2 177 (4 + c) (m + 1)) ∧ DFc s (stp (cnm s N c w m)) ∧ DFr N t (up2 t2 177 (4 + c) (m + 1)) ∧ t2 177 (4 + c) = m ∧ (∀ j : Nat, j < N → (stp (cnm s N c w m)) 107 j = s 107 j ∧ (stp (cnm s N c w m)) 108 j = s 108 j) ∧ (stp (cnm s N c w m)) 107 N = w ∧ (stp (cnm s N c w m)) 108 N = m ∧ (∀ d : Nat, (stp (cnm s N c w m)) 109 d = if d = c then m + 1 else s 109 d) := by
    intro hun
    have i5 : (cnm s N c w m) 137 5 = s 137 5 := cnm_o 137 5 (by omega)
    have ru : ∀ q j, ¬ lexs q j → (up2 t2 177 (4 + c) (m + 1)) q j = (up2 (rnm t N w m) 177 (4 + c) (m + 1)) q j := fun q j z => by
      by_cases y : q = 177 ∧ j = 4 + c
      · rw [y.1, y.2, up_self, up_self]
      · rw [show (up2 t2 177 (4 + c) (m + 1)) q j = t2 q j from if_neg y, show (up2 (rnm t N w m) 177 (4 + c) (m + 1)) q j = (rnm t N w m) q j from if_neg y]
        exact a4 q j z
    have hLf : RLx T n e (stp (cnm s N c w m)) (up2 t2 177 (4 + c) (m + 1)) := by
      obtain ⟨q1, q2, q3, q4, q5⟩ := a2
      exact ⟨q1, q2, q3, q4, q5⟩
    have r15 : (up2 t2 177 (4 + c) (m + 1)) 170 15 = t 170 15 := (ru 170 15 (by unfold lexs; omega)).trans ((if_neg (by omega)).trans (rnm_o 170 15 (by omega)))
    have r176 : ∀ j : Nat, j < N → (up2 t2 177 (4 + c) (m + 1)) 176 j = t 176 j := fun j hj => (ru 176 j (by unfold lexs; omega)).trans ((if_neg (by omega)).trans (rnm_o 176 j (by omega)))
    have r176N : (up2 t2 177 (4 + c) (m + 1)) 176 N = t 170 15 := (ru 176 N (by unfold lexs; omega)).trans ((if_neg (by omega)).trans (by unfold rnm; exact (if_neg (by omega)).trans up_self))
    refine ⟨t2, by rw [a1]; rfl, rfl, H_lex hLf ⟨hrest.1 hun, hrest.2⟩ stk (by rw [a3]; omega) ru, ⟨hsc.1, by have := hsc.2.1; omega, fun j hj => ?_⟩, ⟨fun q j z1 z2 => (stk q j z1).trans (cnm_o q j (by omega)), by rw [a3, i5]⟩, ⟨fun q j z1 z2 z3 => (ru q j z1).trans ((if_neg (by omega)).trans (rnm_o q j (by omega))), fun q j hq hj => (ru q j (by unfold lexs; omega)).trans ((if_neg (by omega)).trans (rnm_o q j (by omega)))⟩, ?_, fun j hj => ⟨(stk 107 j (by omega)).trans (cnm_o 107 j (by omega)), (stk 108 j (by omega)).trans (cnm_o 108 j (by omega))⟩, ?_, ?_, fun d => ?_⟩
    · rw [r15]
      by_cases ej : j = N
      · subst ej
        rw [r176N]
        have := hsc.2.1
        exact ⟨fun _ => this, fun _ => rfl⟩
      · rw [r176 j (by omega)]
        exact hsc.2.2 j (by omega)
    · rw [a4 177 (4 + c) (by unfold lexs; omega), rnm_o 177 (4 + c) (by omega), (h.2.2.1 c hc).1, hm]
    · rw [stk 107 N (by omega)]
      unfold cnm
      exact (if_neg (by omega)).trans ((if_neg (by omega)).trans up_self)
    · rw [stk 108 N (by omega)]
      unfold cnm
      exact (if_neg (by omega)).trans up_self
    · rw [stk 109 d (by omega)]
      by_cases q : d = c
      · rw [if_pos q, q]
        unfold cnm
        exact (if_neg (by omega)).trans ((if_neg (by omega)).trans ((if_neg (by omega)).trans ((if_neg (by omega)).trans up_self)))
      · rw [if_neg q]
        exact cnm_o 109 d (by omega)
  have fj : ∀ j, j < N → s 106 j = vlu s → (j : Int) ≤ k := fun j hj q => by
    have h3 : s 105 3 = (N : Int) := h.2.1.1
    have z := fd_le (s := s) (v := vlu s) N j hj q
    rw [hkd]
    unfold fdn
    rw [h3, Int.toNat_natCast, if_pos (show mxx 0 0 ≤ fdl s (vlu s) N by rw [show mxx 0 0 = 0 from by decide]; omega)]
    exact z
  by_cases c0 : k < 0
  · rw [if_pos c0]
    have hbk : ¬ b ≤ k := by have := hsc.1; omega
    rw [if_neg hbk, if_neg (by decide), if_neg (by omega)] at hcd
    rw [hcd]
    exact .inr (yes (fun j hj _ q => by have := fj j hj q; omega))
  · rw [if_neg c0]
    have hsk := hsc.2.2 k.toNat (by omega)
    rw [show ((k.toNat : Nat) : Int) = k by omega] at hsk
    by_cases c1 : t 176 k.toNat ≠ t 170 15
    · rw [if_pos c1]
      have hbk : ¬ b ≤ k := fun q => c1 (hsk.mpr q)
      rw [if_neg hbk, if_neg (by decide), if_neg (by omega)] at hcd
      rw [hcd]
      exact .inr (yes (fun j hj q1 q => by
        have z1 := fj j hj q
        have z2 := (hsc.2.2 j hj).mp q1
        omega))
    · rw [if_neg c1]
      have hbk : b ≤ k := hsk.mp (by omega)
      rw [if_pos hbk, if_pos (by omega)] at hcd
      exact .inl ⟨hcd, rfl⟩
end DECB
