/-! fork: branches of the reference begin. -/
section FORKX
variable {r r2 r3 : tab} {b pc : Nat} {S B : List Int}
theorem it_eG (f : Nat) : rle (it eB f) eG := fun i xs t v h => lim_of eB_k h
/-- a new branch o at a place -/
def mkT (r : tab) (o : Nat) (x y : Int) : tab := up2 (up2 (up2 (up2 (up2 (up2 r 205 o x) 206 o 1) 208 o 0) 209 o 0) 210 o y) 211 o 0
theorem mk_o {o : Nat} {x y : Int} {k j : Nat} (h : ¬ ((k = 205 ∨ k = 206 ∨ 208 ≤ k ∧ k ≤ 211) ∧ j = o)) : mkT r o x y k j = r k j := (if_neg (by omega)).trans ((if_neg (by omega)).trans ((if_neg (by omega)).trans ((if_neg (by omega)).trans ((if_neg (by omega)).trans (if_neg (by omega))))))
theorem mk_v {o : Nat} {x y : Int} : mkT r o x y 205 o = x ∧ mkT r o x y 206 o = 1 ∧ mkT r o x y 208 o = 0 ∧ mkT r o x y 209 o = 0 ∧ mkT r o x y 210 o = y ∧ mkT r o x y 211 o = 0 := by
  unfold mkT
  refine ⟨?_, ?_, ?_, ?_, ?_, up_self⟩
  · exact (if_neg (by omega)).trans ((if_neg (by omega)).trans ((if_neg (by omega)).trans ((if_neg (by omega)).trans ((if_neg (by omega)).trans up_self))))
  · exact (if_neg (by omega)).trans ((if_neg (by omega)).trans ((if_neg (by omega)).trans ((if_neg (by omega)).trans up_self)))
  · exact (if_neg (by omega)).trans ((if_neg (by omega)).trans ((if_neg (by omega)).trans up_self))
  · exact (if_neg (by omega)).trans ((if_neg (by omega)).trans up_self)
  · exact (if_neg (by omega)).trans up_self
theorem mk_e {o : Nat} {x y z : Int} {t : tab} (h : eG 6 [(o : Int), x, y] r = some (some (z, t))) : o < 700 ∧ t = mkT r o x y := by
  rw [eG_161] at h
  unfold eM161 at h
  by_cases c : 0 ≤ (o : Int) ∧ (o : Int) < 700
  · rw [if_pos c, Int.toNat_natCast] at h
    cases h
    exact ⟨by omega, rfl⟩
  · rw [if_neg c] at h
    cases h
/-- branches from the k-th on have begun -/
def FKx (b n ls k : Nat) (r r2 : tab) : Prop := ∃ os : Nat → Nat, (∀ i, k ≤ i → i < n → os i < 700 ∧ (os i : Int) < r2 170 55 ∧ (r 206 (os i) = 0 ∨ r 170 55 ≤ (os i : Int)) ∧ r2 206 (os i) = 1 ∧ r2 210 (os i) = (b : Int) ∧ r2 205 (os i) = r 178 (ls + i) ∧ r2 208 (os i) = 0 ∧ r2 209 (os i) = 0) ∧ (∀ i j, k ≤ i → i < n → k ≤ j → j < n → os i = os j → i = j) ∧ r 170 55 ≤ r2 170 55 ∧ (∀ x : Nat, r 170 55 ≤ (x : Int) → (x : Int) < r2 170 55 → ∃ i, k ≤ i ∧ i < n ∧ os i = x) ∧ (∀ q j, ¬ ((q = 205 ∨ q = 206 ∨ 208 ≤ q ∧ q ≤ 211) ∧ ∃ i, k ≤ i ∧ i < n ∧ j = os i) → ¬ (q = 170 ∧ j = 55) → ¬ ((q = 206 ∨ q = 211) ∧ j = b) → r2 q j = r q j) ∧ r2 206 b = 6 ∧ r2 211 b = (n : Int)
def FLb (b : Nat) (r : tab) : Prop := r 206 b ≠ 0 ∧ (b : Int) < r 170 55 ∧ r 170 55 ≤ 700
theorem fk_s {b n ls k o : Nat} {ra : tab} (hb : FLb b r) (hk : k < n) (ho : o < 700) (hl : r 206 o = 0 ∨ r 170 55 ≤ (o : Int)) (e55 : ra 170 55 = if (o : Int) = r 170 55 then r 170 55 + 1 else r 170 55) (ole : (o : Int) ≤ r 170 55) (era : ∀ q j, ¬ (q = 170 ∧ j = 55) → ra q j = mkT r o (r 178 (ls + k)) (b : Int) q j) (h : FKx b n ls (k + 1) ra r2) : FKx b n ls k r r2 := by
  obtain ⟨os, h1, h2, h3, h4, h5, h6, h7⟩ := h
  obtain ⟨v1, v2, v3, v4, v5, v6⟩ := mk_v (r := r) (o := o) (x := r 178 (ls + k)) (y := (b : Int))
  have nb : o ≠ b := fun e => by
    have u1 := hb.1
    have u2 := hb.2.1
    rcases hl with q | q
    · rw [e] at q
      exact u1 q
    · omega
  have o55 : (o : Int) < ra 170 55 := by
    rw [e55]
    by_cases c : (o : Int) = r 170 55
    · rw [if_pos c]
      omega
    · rw [if_neg c]
      omega
  have r55 : r 170 55 ≤ ra 170 55 := by
    rw [e55]
    split <;> omega
  have dif : ∀ i, k + 1 ≤ i → i < n → os i ≠ o := fun i q1 q2 e => by
    obtain ⟨_, _, w, _⟩ := h1 i q1 q2
    rw [e, era 206 o (by omega), v2] at w
    omega
  have ro : ∀ q, q = 205 ∨ q = 206 ∨ 208 ≤ q ∧ q ≤ 211 → r2 q o = ra q o := fun q hq => h5 q o (by
    rintro ⟨_, i, w1, w2, w3⟩
    exact dif i w1 w2 w3.symm) (by omega) (by omega)
  obtain ⟨ot, hot⟩ : ∃ ot : Nat → Nat, ∀ i, ot i = if i = k then o else os i := ⟨_, fun _ => rfl⟩
  refine ⟨ot, fun i q1 q2 => ?_, fun i j q1 q2 q3 q4 e => ?_, by omega, fun x q1 q2 => ?_, fun q j q1 q2 q3 => ?_, h6, h7⟩
  · by_cases e : i = k
    · rw [hot, if_pos e, ro 206 (by omega), ro 210 (by omega), ro 205 (by omega), ro 208 (by omega), ro 209 (by omega), era 206 o (by omega), era 210 o (by omega), era 205 o (by omega), era 208 o (by omega), era 209 o (by omega), e]
      exact ⟨ho, by omega, hl, v2, v5, v1, v3, v4⟩
    · rw [hot, if_neg e]
      obtain ⟨w1, w2, w3, w4, w5, w6, w7, w8⟩ := h1 i (by omega) q2
      have d := dif i (by omega) q2
      refine ⟨w1, w2, ?_, w4, w5, ?_, w7, w8⟩
      · rcases w3 with w3 | w3
        · rw [era 206 _ (by omega), mk_o (by omega)] at w3
          exact .inl w3
        · exact .inr (by omega)
      · rw [w6, era 178 _ (by omega), mk_o (by omega)]
  · by_cases e1 : i = k
    · by_cases e2 : j = k
      · omega
      · rw [hot, hot, if_pos e1, if_neg e2] at e
        exact absurd e.symm (dif j (by omega) q4)
    · by_cases e2 : j = k
      · rw [hot, hot, if_neg e1, if_pos e2] at e
        exact absurd e (dif i (by omega) q2)
      · rw [hot, hot, if_neg e1, if_neg e2] at e
        exact h2 i j (by omega) q2 (by omega) q4 e
  · by_cases c : ra 170 55 ≤ (x : Int)
    · obtain ⟨i, w1, w2, w3⟩ := h4 x c q2
      exact ⟨i, by omega, w2, by rw [hot, if_neg (by omega)]; exact w3⟩
    · refine ⟨k, Nat.le_refl _, hk, ?_⟩
      rw [hot, if_pos rfl]
      rw [e55] at c
      by_cases c2 : (o : Int) = r 170 55
      · rw [if_pos c2] at c
        omega
      · rw [if_neg c2] at c
        omega
  · have n1 : ¬ ((q = 205 ∨ q = 206 ∨ 208 ≤ q ∧ q ≤ 211) ∧ ∃ i, k + 1 ≤ i ∧ i < n ∧ j = os i) := fun w => by
      obtain ⟨w1, i, w2, w3, w4⟩ := w
      exact q1 ⟨w1, i, by omega, w3, by rw [hot, if_neg (by omega)]; exact w4⟩
    rw [h5 q j n1 q2 q3, era q j q2]
    refine mk_o (fun w => q1 ⟨w.1, k, Nat.le_refl _, hk, ?_⟩)
    rw [hot, if_pos rfl]
    exact w.2
theorem fk_all {b n ls : Nat} (hls : ls + n < 40000) : ∀ f, (∀ (k : Nat) (r : tab) (v : Option (Int × tab)), k ≤ n → FLb b r → it eB f 19 [(b : Int), (n : Int), (ls : Int), (k : Int)] r = some v → ∃ r2, v = some (0, r2) ∧ FKx b n ls k r r2) ∧ (∀ (k o : Nat) (r : tab) (v : Option (Int × tab)), k < n → (o : Int) ≤ r 170 55 → FLb b r → it eB f 20 [(b : Int), (n : Int), (ls : Int), (k : Int), (o : Int)] r = some v → ∃ r2, v = some (0, r2) ∧ FKx b n ls k r r2)
  | 0 => ⟨fun _ _ _ _ _ h => (by cases h), fun _ _ _ _ _ _ _ h => (by cases h)⟩
  | f + 1 => by
    obtain ⟨ih1, ih2⟩ := fk_all (b := b) hls f
    refine ⟨fun k r v hk hb h => ?_, fun k o r v hk ho hb h => ?_⟩
    · have h : eM169_27 (it eB f) (b : Int) (n : Int) (ls : Int) (k : Int) r = some v := h
      unfold eM169_27 at h
      by_cases c : (n : Int) ≤ (k : Int)
      · rw [if_pos c, Int.toNat_natCast] at h
        cases h
        have o : ∀ q j, ¬ ((q = 206 ∨ q = 211) ∧ j = b) → (up2 (up2 r 211 b (n : Int)) 206 b 6) q j = r q j := fun q j w => (if_neg (by omega)).trans (if_neg (by omega))
        exact ⟨_, rfl, fun _ => 0, fun i q1 q2 => by omega, fun i j q1 q2 => by omega, Int.le_of_eq (o _ _ (by omega)).symm, fun x q1 q2 => by rw [o 170 55 (by omega)] at q2; omega, fun q j _ _ w => o q j w, up_self, (if_neg (by omega)).trans up_self⟩
      · rw [if_neg c] at h
        exact ih2 k 0 r v (by omega) (by have := hb.2.1; omega) hb h
    · have h : eM169_36 (it eB f) (b : Int) (n : Int) (ls : Int) (k : Int) (o : Int) r = some v := h
      unfold eM169_36 at h
      have e1 : (ipl (ls : Int) (k : Int)).toNat = ls + k := by rw [ipl_e (by omega)]; omega
      have e2 : ipl (k : Int) 1 = ((k + 1 : Nat) : Int) := by rw [ipl_e (by omega)]; rfl
      rw [e1, e2] at h
      have bl := hb.2.1
      have b7 := hb.2.2
      have hb1 := hb.1
      have go : ∀ {rx : tab} {v : Option (Int × tab)}, (r 206 o = 0 ∨ r 170 55 ≤ (o : Int)) → (∀ q j, ¬ (q = 170 ∧ j = 55) → rx q j = r q j) → rx 170 55 = (if (o : Int) = r 170 55 then r 170 55 + 1 else r 170 55) → (bo (it eB f 6 [(o : Int), r 178 (ls + k), (b : Int)] rx) fun _ t9 => it eB f 19 [(b : Int), (n : Int), (ls : Int), ((k + 1 : Nat) : Int)] t9) = some v → ∃ r2, v = some (0, r2) ∧ FKx b n ls k r r2 := fun {rx v} hl hx h55 hh => by
        rcases bo_inv hh with ⟨h9, _⟩ | ⟨z, t9, h9, hh⟩
        · have := it_eG f _ _ _ _ h9
          rw [eG_161] at this
          unfold eM161 at this
          split at this <;> cases this
        · obtain ⟨m1, m2⟩ := mk_e (it_eG f _ _ _ _ h9)
          have ob : o ≠ b := fun e => by
            rcases hl with q | q
            · rw [e] at q
              exact hb1 q
            · omega
          have era : ∀ q j, ¬ (q = 170 ∧ j = 55) → t9 q j = mkT r o (r 178 (ls + k)) (b : Int) q j := fun q j w => by
            rw [m2]
            by_cases c : (q = 205 ∨ q = 206 ∨ 208 ≤ q ∧ q ≤ 211) ∧ j = o
            · obtain ⟨v1, v2, v3, v4, v5, v6⟩ := mk_v (r := r) (o := o) (x := r 178 (ls + k)) (y := (b : Int))
              obtain ⟨w1, w2, w3, w4, w5, w6⟩ := mk_v (r := rx) (o := o) (x := r 178 (ls + k)) (y := (b : Int))
              obtain ⟨c1, rfl⟩ := c
              have : q = 205 ∨ q = 206 ∨ q = 208 ∨ q = 209 ∨ q = 210 ∨ q = 211 := by omega
              rcases this with rfl | rfl | rfl | rfl | rfl | rfl
              · rw [v1, w1]
              · rw [v2, w2]
              · rw [v3, w3]
              · rw [v4, w4]
              · rw [v5, w5]
              · rw [v6, w6]
            · rw [mk_o c, mk_o c]
              exact hx q j w
          have e55 : t9 170 55 = if (o : Int) = r 170 55 then r 170 55 + 1 else r 170 55 := by
            rw [m2, mk_o (by omega)]
            exact h55
          have hb9 : FLb b t9 := by
            refine ⟨?_, ?_, ?_⟩
            · rw [era 206 b (by omega), mk_o (by omega)]
              exact hb1
            · rw [e55]
              split <;> omega
            · rw [e55]
              split <;> omega
          obtain ⟨r2, u1, u2⟩ := ih1 (k + 1) t9 v (by omega) hb9 hh
          exact ⟨r2, u1, fk_s hb hk m1 hl e55 ho era u2⟩
      by_cases c : r 170 55 ≤ (o : Int)
      · rw [if_pos c, if_neg (by omega)] at h
        refine go (.inr c) (fun q j w => if_neg w) ?_ h
        rw [if_pos ⟨rfl, rfl⟩, if_pos (by omega), ipl_e (by omega)]
      · rw [if_neg c, Int.toNat_natCast] at h
        by_cases c2 : r 206 o = 0
        · rw [if_pos c2, if_pos (by omega)] at h
          refine go (.inl c2) (fun _ _ _ => rfl) ?_ h
          rw [if_neg (by omega)]
        · rw [if_neg c2] at h
          exact ih2 k (o + 1) r v hk (by omega) hb h
theorem o_fork (hb : b < 700) (h : BVx r b pc S B) (hp : pc < 25000) (hc : r 178 pc = 19) {n : Nat} (hn : r 178 (pc + 1) = (n : Int)) (hn6 : n ≤ 6) (hl : FLb b r) {v : Option (Int × tab)} (ho : eG 11 [(b : Int)] r = some v) : ∃ r1 r2, v = some (0, r2) ∧ BVx r1 b (pc + 8) S B ∧ FRb b r r1 ∧ FKx b n (pc + 2) 0 r1 r2 := by
  obtain ⟨z1, v1, f1⟩ := BV_rd hb h (by omega)
  obtain ⟨_, z2, v2, f2⟩ := BV_r2 hb h hp
  rw [hc] at z1
  rw [eG_165] at ho
  unfold eM165 at ho
  rw [if_pos ⟨by omega, by omega⟩, z1, if_neg (by decide), if_neg (by decide), if_neg (by decide), if_neg (by decide), if_neg (by decide), if_neg (by decide), if_neg (by decide), if_neg (by decide), if_neg (by decide), if_neg (by decide), if_neg (by decide), if_neg (by decide), if_neg (by decide), if_neg (by decide), if_neg (by decide), if_neg (by decide), if_neg (by decide), if_neg (by decide), if_neg (by decide), if_pos rfl] at ho
  obtain ⟨r1, hr1⟩ : ∃ r1, r1 = up2 (rds (rds r (b : Int)) (b : Int)) 205 b ((pc + 8 : Nat) : Int) := ⟨_, rfl⟩
  have e : eG 9 [(b : Int)] (rds r (b : Int)) = eG 19 [(b : Int), (n : Int), ((pc + 2 : Nat) : Int), ((0 : Nat) : Int)] r1 := by
    rw [eG_169]
    unfold eM169
    rw [z2, hn, Int.toNat_natCast, v2.1, ipl_e (by omega), hr1]
    rfl
  rw [e] at ho
  have v3 : BVx r1 b (pc + 8) S B := by rw [hr1]; exact BV_pc v2
  have f3 : FRb b r r1 := by rw [hr1]; exact Fb_tr f2 Fb_pc
  have hl1 : FLb b r1 := ⟨by rw [f3 206 b (by omega) (by omega) (by omega)]; exact hl.1, by rw [f3 170 55 (by omega) (by omega) (by omega)]; exact hl.2.1, by rw [f3 170 55 (by omega) (by omega) (by omega)]; exact hl.2.2⟩
  rcases bo_inv ho with ⟨h9, h8⟩ | ⟨z9, t9, h9, h8⟩
  · obtain ⟨f, hf⟩ := lim_ex h9
    obtain ⟨rz, u1, u2⟩ := (fk_all (b := b) (n := n) (ls := pc + 2) (by omega) f).1 0 r1 _ (by omega) hl1 hf
    cases u1
  · obtain ⟨f, hf⟩ := lim_ex h9
    obtain ⟨rz, u1, u2⟩ := (fk_all (b := b) (n := n) (ls := pc + 2) (by omega) f).1 0 r1 _ (by omega) hl1 hf
    cases u1
    cases h8
    exact ⟨r1, _, rfl, v3, f3, u2⟩
end FORKX
