/-! STATEMENTS, in both: what is kept. -/
section STM
variable {T : Nat → Int} {n e N : Nat} {g : Gtt} {s t s2 t2 : tab} {rc : MRq}
theorem p_N (hrc : rle rc rG) (hL : PNLx rc) : ∀ (T : Nat → Int) (n e N : Nat) (g : Gtt) (s t : tab) (x : Int) (v : Option (Int × tab)), REx T n e N g s t → 1 ≤ x → x ≤ 20 → 0 ≤ s 131 6 → s 131 6 ≤ 10 * x → kkd s = 1 → rM156 rc (x - 1) t = some v → ONx T n e N g s t (cG 49 [x] s) v := by
  intro T n e N g s t x v hR x0 x1 b0 b1 hk h
  obtain ⟨w1, w2, w3⟩ := RE_name hR hk
  unfold rM156 at h
  have h := bxr hrc w1 h
  try dsimp only at h
  by_cases c0 : 0 ≤ fdn s (vlu s) 0
  · rw [c_nst hk (by omega)]
    obtain ⟨k, hkd⟩ : ∃ k, k = fdn s (vlu s) 0 := ⟨_, rfl⟩
    rw [← hkd] at h w2 w3 c0 ⊢
    obtain ⟨n1, n2, n3, n4, n5, n6, n7, _⟩ := RS_nm hR.2.1 c0 w2
    have hown := own_in hR c0 w2
    have h35 : s 131 13 = t 170 35 := hR.2.1.2.2.2.1
    rw [if_pos c0, n1, n2] at h
    have hbeh := fun (q : Int) (hq : q = 61 ∨ q = 91 ∨ q = 40 ∨ q = 33 ∨ q = 63) => RL_beh hR.1 (show kkd s ≠ 3 by omega) (show kkd s ≠ 4 by omega) hq
    have go : ∀ c : Int, (c ≠ 0 → canP s t k) → (c = 0 → ¬ canP s t k) → rc 61 [x - 1, k, t 170 5, nkd s k, nnm s k, c] t = some v → ONx T n e N g s t (NXx x k s) v := fun c a1 a2 a3 => hL T n e N g s t x k (t 170 5) c v hR x0 x1 b0 b1 hk c0 w2 a1 a2 a3
    unfold canP at go
    by_cases d0 : nkd s k ≠ 0
    · rw [if_pos d0] at h
      by_cases d1 : nkd s k ≠ 1
      · rw [if_pos d1] at h
        by_cases d5 : nkd s k ≠ 5
        · rw [if_pos d5] at h
          by_cases hf : t 170 37 ≠ 0
          · rw [if_pos hf] at h
            exact go 0 (fun q => absurd rfl q) (fun _ => by omega) h
          · rw [if_neg hf] at h
            by_cases d2 : nkd s k = 2
            · rw [if_pos d2] at h
              have h := bxr hrc (hbeh 33 (by decide)) h
              try dsimp only at h
              by_cases q1 : kkd (stp s) = 33
              · rw [if_pos q1, if_pos (by decide)] at h
                exact go 1 (fun _ => by omega) (fun q => absurd q (by decide)) h
              · rw [if_neg q1, if_neg (by decide)] at h
                have h := bxr hrc (hbeh 63 (by decide)) h
                try dsimp only at h
                by_cases q2 : kkd (stp s) = 63
                · rw [if_pos q2, if_neg (by decide)] at h
                  exact go 1 (fun _ => by omega) (fun q => absurd q (by decide)) h
                · rw [if_neg q2, if_pos rfl] at h
                  exact go 0 (fun q => absurd rfl q) (fun _ => by omega) h
            · rw [if_neg d2] at h
              by_cases d4 : nkd s k ≠ 4
              · rw [if_pos d4] at h
                by_cases d3 : nkd s k ≠ 3
                · rw [if_pos d3] at h
                  exact go 0 (fun q => absurd rfl q) (fun _ => by omega) h
                · rw [if_neg d3] at h
                  have h := bxr hrc (hbeh 63 (by decide)) h
                  try dsimp only at h
                  by_cases q2 : kkd (stp s) = 63
                  · rw [if_pos q2, if_neg (by decide)] at h
                    exact go 1 (fun _ => by omega) (fun q => absurd q (by decide)) h
                  · rw [if_neg q2, if_pos rfl] at h
                    exact go 0 (fun q => absurd rfl q) (fun _ => by omega) h
              · rw [if_neg d4] at h
                have h := bxr hrc (hbeh 33 (by decide)) h
                try dsimp only at h
                by_cases q1 : kkd (stp s) = 33
                · rw [if_pos q1, if_pos (by decide)] at h
                  exact go 1 (fun _ => by omega) (fun q => absurd q (by decide)) h
                · rw [if_neg q1, if_neg (by decide), if_pos (by omega)] at h
                  exact go 0 (fun q => absurd rfl q) (fun _ => by omega) h
        · rw [if_neg d5] at h
          have h := bxr hrc (hbeh 40 (by decide)) h
          try dsimp only at h
          by_cases q1 : kkd (stp s) = 40
          · rw [if_pos q1, if_neg (by decide)] at h
            by_cases hf : t 170 37 ≠ 0
            · rw [if_pos hf] at h
              exact go 0 (fun q => absurd rfl q) (fun _ => by omega) h
            · rw [if_neg hf, ← h35] at h
              by_cases hs : nnm s k = s 131 13
              · rw [if_pos hs] at h
                exact go 0 (fun q => absurd rfl q) (fun _ => by omega) h
              · rw [if_neg hs] at h
                exact go 1 (fun _ => by omega) (fun q => absurd q (by decide)) h
          · rw [if_neg q1, if_pos rfl] at h
            exact go 0 (fun q => absurd rfl q) (fun _ => by omega) h
      · rw [if_neg d1] at h
        have h := bxr hrc (hbeh 91 (by decide)) h
        try dsimp only at h
        by_cases q1 : kkd (stp s) = 91
        · rw [if_pos q1] at h
          exact go 1 (fun _ => by omega) (fun q => absurd q (by decide)) h
        · rw [if_neg q1] at h
          exact go 0 (fun q => absurd rfl q) (fun _ => by omega) h
    · rw [if_neg d0] at h
      have h := bxr hrc (hbeh 61 (by decide)) h
      try dsimp only at h
      by_cases q1 : kkd (stp s) = 61
      · rw [if_pos q1] at h
        exact go 1 (fun _ => by omega) (fun q => absurd q (by decide)) h
      · rw [if_neg q1] at h
        exact go 0 (fun q => absurd rfl q) (fun _ => by omega) h
  · rw [if_neg c0] at h
    cases h
    rw [cG_71]
    unfold cM71
    rw [c_mean hk, if_pos (by omega)]
    exact ON_no rfl
/-- pars at fault, scopes, how many names -/
def RPf (s t : tab) : Prop := (s 131 3 = -2 ∧ t 170 21 = -1) ∨ (0 ≤ s 131 3 ∧ s 131 3 = t 170 21)
def RSc (N : Nat) (s t : tab) : Prop := 0 ≤ t 170 15 ∧ t 170 15 < t 170 16 ∧ t 170 16 ≤ s 137 5 + 1 ∧ ∀ j : Nat, j < N → 0 ≤ t 176 j ∧ t 176 j < t 170 16
def RCn (N : Nat) (s t : tab) : Prop := (N : Int) ≤ s 109 0 + s 109 1 + s 109 2 + s 109 3 + s 109 4 + s 109 5 ∧ (t 170 37 = 1 → s 131 14 ≤ (N : Int) ∧ t 170 36 ≤ s 109 0)
def RQx (T : Nat → Int) (n e N : Nat) (g : Gtt) (s t : tab) : Prop := REx T n e N g s t ∧ RPf s t ∧ RSc N s t ∧ RCn N s t
/-- what a STATEMENT keeps -/
def FSc (s s2 : tab) : Prop := (∀ j, s2 112 j = s 112 j) ∧ (∀ j, s2 113 j = s 113 j) ∧ s2 131 13 = s 131 13 ∧ s2 131 14 = s 131 14 ∧ s2 131 6 = s 131 6 ∧ s 137 5 ≤ s2 137 5
def FSr (N : Nat) (t t2 : tab) : Prop := t2 170 15 = t 170 15 ∧ (∀ k j : Nat, 172 ≤ k ∧ k ≤ 176 → j < N → t2 k j = t k j) ∧ t2 170 35 = t 170 35 ∧ t2 170 36 = t 170 36 ∧ t2 170 37 = t 170 37 ∧ (∀ j, t2 201 j = t 201 j) ∧ (∀ j, t2 202 j = t 202 j)
theorem FSc_rf : FSc s s := ⟨fun _ => rfl, fun _ => rfl, rfl, rfl, rfl, Int.le_refl _⟩
theorem FSr_rf : FSr N t t := ⟨rfl, fun _ _ _ _ => rfl, rfl, rfl, rfl, fun _ => rfl, fun _ => rfl⟩
theorem FSc_tr {s3 : tab} (h : FSc s s2) (k : FSc s2 s3) : FSc s s3 := ⟨fun j => (k.1 j).trans (h.1 j), fun j => (k.2.1 j).trans (h.2.1 j), k.2.2.1.trans h.2.2.1, k.2.2.2.1.trans h.2.2.2.1, k.2.2.2.2.1.trans h.2.2.2.2.1, Int.le_trans h.2.2.2.2.2 k.2.2.2.2.2⟩
theorem FSr_tr {t3 : tab} (h : FSr N t t2) (k : FSr N t2 t3) : FSr N t t3 := ⟨k.1.trans h.1, fun q j hq hj => (k.2.1 q j hq hj).trans (h.2.1 q j hq hj), k.2.2.1.trans h.2.2.1, k.2.2.2.1.trans h.2.2.2.1, k.2.2.2.2.1.trans h.2.2.2.2.1, fun j => (k.2.2.2.2.2.1 j).trans (h.2.2.2.2.2.1 j), fun j => (k.2.2.2.2.2.2 j).trans (h.2.2.2.2.2.2 j)⟩
theorem FSc_E (h : FEc s s2) : FSc s s2 := ⟨fun j => h.1 112 j (by omega) (by omega) (by omega), fun j => h.1 113 j (by omega) (by omega) (by omega), h.1 131 13 (by omega) (by omega) (by omega), h.1 131 14 (by omega) (by omega) (by omega), h.2.1, h.2.2.2⟩
theorem FSr_E (h : FEr t t2) : FSr N t t2 := ⟨h 170 15 (by omega), fun k j hk _ => h k j (by omega), h 170 35 (by omega), h 170 36 (by omega), h 170 37 (by omega), fun j => h 201 j (by omega), fun j => h 202 j (by omega)⟩
theorem RQ_E {g2 : Gtt} (h : RQx T n e N g s t) (hR : REx T n e N g2 s2 t2) (hc : FEc s s2) (hr : FEr t t2) : RQx T n e N g2 s2 t2 := by
  obtain ⟨_, p, ⟨c1, c2, c3, c4⟩, d⟩ := h
  have k5 := hc.2.2.2
  refine ⟨hR, ?_, ⟨?_, ?_, ?_, fun j hj => ?_⟩, ?_⟩
  · unfold RPf
    rw [hc.1 131 3 (by omega) (by omega) (by omega), hr 170 21 (by omega)]
    exact p
  · rw [hr 170 15 (by omega)]
    exact c1
  · rw [hr 170 15 (by omega), hr 170 16 (by omega)]
    exact c2
  · rw [hr 170 16 (by omega)]
    omega
  · rw [hr 170 16 (by omega), hr 176 j (by omega)]
    exact c4 j hj
  · unfold RCn
    rw [hr 170 37 (by omega), hr 170 36 (by omega), hc.1 131 14 (by omega) (by omega) (by omega), hc.1 109 0 (by omega) (by omega) (by omega), hc.1 109 1 (by omega) (by omega) (by omega), hc.1 109 2 (by omega) (by omega) (by omega), hc.1 109 3 (by omega) (by omega) (by omega), hc.1 109 4 (by omega) (by omega) (by omega), hc.1 109 5 (by omega) (by omega) (by omega)]
    exact d
/-- bits of variables, sizes of arrays -/
def RBx (s t : tab) : Prop := (∀ v : Nat, (v : Int) < s 109 0 → t 179 v = s 110 v) ∧ ∀ a : Nat, (a : Int) < s 109 1 → t 180 a = s 111 a
def FBx (s t s2 t2 : tab) : Prop := (RBx s t → RBx s2 t2) ∧ s2 109 5 = s 109 5 ∧ ∀ r, s2 114 r = s 114 r ∧ t2 200 r = t 200 r ∧ t2 177 2 = t 177 2 ∧ s 109 0 ≤ s2 109 0 ∧ s 109 1 ≤ s2 109 1 ∧ t2 170 37 = t 170 37
theorem FB_tr {s3 t3 : tab} (h : FBx s t s2 t2) (k : FBx s2 t2 s3 t3) : FBx s t s3 t3 := ⟨fun q => k.1 (h.1 q), k.2.1.trans h.2.1, fun r => ⟨(k.2.2 r).1.trans (h.2.2 r).1, (k.2.2 r).2.1.trans (h.2.2 r).2.1, (k.2.2 r).2.2.1.trans (h.2.2 r).2.2.1, Int.le_trans (h.2.2 r).2.2.2.1 (k.2.2 r).2.2.2.1, Int.le_trans (h.2.2 r).2.2.2.2.1 (k.2.2 r).2.2.2.2.1, (k.2.2 r).2.2.2.2.2.trans (h.2.2 r).2.2.2.2.2⟩⟩
theorem FB_E (hc : FEc s s2) (hr : FEr t t2) : FBx s t s2 t2 := by
  refine ⟨fun q => ⟨fun v hv => ?_, fun v hv => ?_⟩, hc.1 109 5 (by omega) (by omega) (by omega), fun r => ⟨hc.1 114 r (by omega) (by omega) (by omega), hr 200 r (by omega), hr 177 2 (by omega), Int.le_of_eq (hc.1 109 0 (by omega) (by omega) (by omega)).symm, Int.le_of_eq (hc.1 109 1 (by omega) (by omega) (by omega)).symm, hr 170 37 (by omega)⟩⟩
  · rw [hc.1 109 0 (by omega) (by omega) (by omega)] at hv
    rw [hc.1 110 v (by omega) (by omega) (by omega), hr 179 v (by omega)]
    exact q.1 v hv
  · rw [hc.1 109 1 (by omega) (by omega) (by omega)] at hv
    rw [hc.1 111 v (by omega) (by omega) (by omega), hr 180 v (by omega)]
    exact q.2 v hv
/-- parts and code of a STATEMENT, beside it -/
def ESr (s t s2 t2 : tab) : Prop := s 99 12 < s2 99 12 ∧ s2 104 (s2 99 12 - 1).toNat = -1 ∧ PFx s t s2 t2 ∧ (s2 99 12 + s 137 5 ≤ s 99 12 + s2 137 5 ∧ t2 177 1 + 12 * s 137 5 ≤ t 177 1 + 12 * s2 137 5 ∧ t2 177 10 + s 137 5 ≤ t 177 10 + s2 137 5) ∧ FBx s t s2 t2
/-- parts and code of a STATEMENT, unless a par was at fault -/
def ESx (g : Gtt) (s t s2 t2 : tab) : Prop := (t2 170 21 = -1 → CO s2 t2 g.2.2.2.1 1 0 (s 99 12).toNat (s2 99 12).toNat (s2 99 12 - 1) (t 177 1).toNat (t2 177 1).toNat (t 177 10).toNat (t2 177 10).toNat 0 (cxt g s2 t2)) ∧ ESr s t s2 t2
theorem ES_pre {s0 t0 : tab} (h : ESx g s t s2 t2) (hp : PWx s0 t0 s t) (h5 : s0 137 5 ≤ s 137 5) (hb : FBx s0 t0 s t) : ESx g s0 t0 s2 t2 := by
  obtain ⟨p1, p2, p3, p4⟩ := hp
  obtain ⟨h1, h2, h3, h4, ⟨h6, h7, h8⟩, h9⟩ := h
  rw [p2, p3, p4] at h1
  exact ⟨h1, by omega, h3, PF_tr p1 h4, ⟨by omega, by omega, by omega⟩, FB_tr hb h9⟩
theorem ES_post {s3 t3 : tab} (h : ESx g s t s2 t2) (h0 : 0 ≤ t2 177 1 ∧ 0 ≤ s 99 12) (hp : PWx s2 t2 s3 t3) (h5 : s2 137 5 ≤ s3 137 5) (hb : FBx s2 t2 s3 t3) : ESx g s t s3 t3 := by
  obtain ⟨p1, p2, p3, p4⟩ := hp
  obtain ⟨h1, h2, h3, h4, ⟨h6, h7, h8⟩, h9⟩ := h
  refine ⟨fun q => ?_, by omega, ?_, PF_tr h4 p1, ⟨by omega, by omega, by omega⟩, FB_tr h9 hb⟩
  · have k := h1 (p1.2.2.2.2.1 q)
    have hb := (CO_rt k (by omega)).2.1
    rw [p2, p3, p4]
    exact EM_up k hb (by omega) (fun q => absurd q (by omega)) p1
  · rw [p2]
    exact (p1.1.2 104 _ (by omega) (by omega) (by omega)).trans h3
/-- how the reading of a STATEMENT ends -/
def OSx (T : Nat → Int) (n e N : Nat) (g : Gtt) (s t : tab) (X : RO) (v : Option (Int × tab)) : Prop := ∃ z t2, v = some (z, t2) ∧ ((z = 1 ∧ ∃ s2, X = some (some (s2 99 12 - 1, s2)) ∧ RQx T n e N g s2 t2 ∧ FSc s s2 ∧ FSr N t t2 ∧ s 137 5 < s2 137 5 ∧ ESx g s t s2 t2) ∨ (z = 0 ∧ X = some none))
theorem OS_no {X : RO} {t9 : tab} (h : X = some none) : OSx T n e N g s t X (some (0, t9)) := ⟨0, t9, rfl, .inr ⟨rfl, h⟩⟩
theorem OS_pre {s0 t0 : tab} {X : RO} {v : Option (Int × tab)} (h : OSx T n e N g s t X v) (hc : FSc s0 s) (hr : FSr N t0 t) (hp : PWx s0 t0 s t) (hb : FBx s0 t0 s t) : OSx T n e N g s0 t0 X v := by
  obtain ⟨z, t2, e1, h⟩ := h
  refine ⟨z, t2, e1, ?_⟩
  rcases h with ⟨h1, s2, h2, h3, h4, h5, h6, h7⟩ | h
  · exact .inl ⟨h1, s2, h2, h3, FSc_tr hc h4, FSr_tr hr h5, Int.lt_of_le_of_lt hc.2.2.2.2.2 h6, ES_pre h7 hp hc.2.2.2.2.2 hb⟩
  · exact .inr h
theorem OS_N {X : RO} {v : Option (Int × tab)} (hQ : RQx T n e N g s t) (h : ONx T n e N g s t X v) : OSx T n e N g s t X v := by
  obtain ⟨z, t2, e1, h⟩ := h
  refine ⟨z, t2, e1, ?_⟩
  obtain ⟨u1, _⟩ := hQ.1.2.2.2.1
  rcases h with ⟨h1, s2, h2, h3, h4, h5, h6, h7, h8, h9, h10, h11, h12⟩ | h
  · have hb := (CO_le h7).2.2 (by omega)
    exact .inl ⟨h1, s2, h2, RQ_E hQ h3 h4 h5, FSc_E h4, FSr_E h5, h6, fun _ => by rw [h12]; exact h7, by omega, h8, h9, ⟨by omega, by omega, by omega⟩, FB_E h4 h5⟩
  · exact .inr h
end STM
