/-! look, in both. -/
section LOOKX
variable {K : SCt} {M m : Nat} {c : Int} {B : Nat → Int} {t t1 e e2 : tab}
/-- what the tape's word is -/
def WDx (B : Nat → Int) (m : Nat) (z : Int) : Prop := (m ≤ 8 ∧ ∀ j, j < m → aln (B j) = true) ∧ z = wdn B 0 m ∨ ¬ (m ≤ 8 ∧ ∀ j, j < m → aln (B j) = true) ∧ z = 0
theorem w_word1 (h1 : t 97 1 = (m : Int)) (hb : ∀ j, j < m → t 98 j = B j ∧ -128 ≤ B j ∧ B j ≤ 127) : ∀ d i : Nat, d + i = m → i ≤ 8 → (∀ j, j < i → aln (B j) = true) → ∃ z, wG 55 [wdn B 0 i, (i : Int)] t = some (some (z, t)) ∧ WDx B m z
  | 0, i, hd, hi, ha => by
    refine ⟨wdn B 0 i, ?_, .inl ?_⟩
    · rw [wG_114_4]
      unfold wM114_4
      rw [if_pos (by omega)]
    · have e : i = m := by omega
      rw [e] at hi ha ⊢
      exact ⟨⟨hi, ha⟩, rfl⟩
  | d + 1, i, hd, hi, ha => by
    rw [wG_114_4]
    unfold wM114_4
    rw [if_neg (by omega)]
    by_cases h8 : (i : Int) = 8
    · rw [if_pos h8]
      exact ⟨0, rfl, .inr ⟨fun q => absurd q.1 (by omega), rfl⟩⟩
    · rw [if_neg h8]
      obtain ⟨b1, b2, b3⟩ := hb i (by omega)
      have ea : atb t (i : Int) = if B i < 0 then B i + 256 else B i := by
        unfold atb
        rw [if_pos ⟨by omega, by omega⟩, Int.toNat_natCast, b1, ian255 ⟨b2, b3⟩]
      by_cases hal : aln (B i) = true
      · have h9 := aln_iff.mp hal
        have ea2 : atb t (i : Int) = B i := by
          rw [ea, if_neg (by omega)]
        have el : alz (atb t (i : Int)) = 1 := by
          rw [ea2]
          unfold alz
          rw [if_pos h9]
        have ws := wdn_small (T := B) (p := 0) (k := i) (by omega) (fun j hj => by
          rw [Nat.zero_add]
          have := aln_iff.mp (ha j hj)
          omega)
        rw [if_pos (by rw [el]; decide), ea2, lo_byte ws.1 ws.2 (by omega), show (i : Int) + 1 = ((i + 1 : Nat) : Int) by omega, show wdn B 0 i * 256 + B i = wdn B 0 (i + 1) by show _ = wdn B 0 i * 256 + B (0 + i); rw [Nat.zero_add]]
        refine w_word1 h1 hb d (i + 1) (by omega) (by omega) (fun j hj => ?_)
        by_cases ej : j = i
        · rw [ej]
          exact hal
        · exact ha j (by omega)
      · have h9 : ¬ (97 ≤ B i ∧ B i ≤ 122 ∨ 48 ≤ B i ∧ B i ≤ 57) := fun q => hal (aln_iff.mpr q)
        have el : alz (atb t (i : Int)) = 0 := by
          rw [ea]
          unfold alz
          by_cases c0 : B i < 0
          · rw [if_pos c0, if_neg (by omega)]
          · rw [if_neg c0, if_neg h9]
        rw [if_neg (by rw [el]; decide)]
        exact ⟨0, rfl, .inr ⟨fun q => hal (q.2 i (by omega)), rfl⟩⟩
theorem w_word (h1 : t 97 1 = (m : Int)) (hb : ∀ j, j < m → t 98 j = B j ∧ -128 ≤ B j ∧ B j ≤ 127) : ∃ z, wG 37 [] t = some (some (z, t)) ∧ WDx B m z := by
  rw [wG_114]
  unfold wM114
  exact w_word1 h1 hb m 0 (by omega) (by omega) (fun j hj => absurd hj (Nat.not_lt_zero _))
theorem fdl_u {w : Int} : ∀ n : Nat, fdl (up2 t 97 1 0) w n = fdl t w n
  | 0 => rfl
  | n + 1 => by
    show (if t 106 n = w then (n : Int) else fdl (up2 t 97 1 0) w n) = if t 106 n = w then (n : Int) else fdl t w n
    rw [fdl_u n]
theorem fd_at {w : Int} : ∀ n : Nat, 0 ≤ fdl t w n → t 106 (fdl t w n).toNat = w
  | 0, h => absurd h (by show ¬ 0 ≤ (-1 : Int); omega)
  | n + 1, h => by
    have h : 0 ≤ (if t 106 n = w then (n : Int) else fdl t w n) := h
    show t 106 (if t 106 n = w then (n : Int) else fdl t w n).toNat = w
    by_cases q : t 106 n = w
    · rw [if_pos q, Int.toNat_natCast]
      exact q
    · rw [if_neg q] at h ⊢
      exact fd_at n h
/-- the reference's search -/
def mtc (e : tab) (m i : Nat) : Prop := e 183 i - e 182 i = (m : Int) ∧ ∀ j, j < m → e 181 ((e 182 i).toNat + j) = e 171 j
def anw (e : tab) (x : Int) (i : Nat) : Int := if e 184 i ≠ 0 then e (213 + (e 185 i).toNat) (ian x (imi (e 180 (e 185 i).toNat) 1)).toNat else e 203 (e 185 i).toNat
theorem e_in0 {x j : Int} {i : Nat} : eG 26 [x, (m : Int), (i : Int), 0, j] e = eG 25 [x, (m : Int), ((i + 1 : Nat) : Int)] e := by
  rw [eG_175_75]
  unfold eM175_75
  rw [show (i : Int) + 1 = ((i + 1 : Nat) : Int) by omega]
  by_cases q : (m : Int) ≤ j
  · rw [if_pos q, if_pos rfl]
  · rw [if_neg q, if_pos rfl]
theorem e_in {x : Int} {i : Nat} (h2 : 0 ≤ e 182 i ∧ e 182 i ≤ 2000) (hm : m ≤ 2000) (hl : e 183 i - e 182 i = (m : Int)) : ∀ d j : Nat, d + j = m → (∀ q, q < j → e 181 ((e 182 i).toNat + q) = e 171 q) → (mtc e m i ∧ eG 26 [x, (m : Int), (i : Int), 1, (j : Int)] e = some (some (anw e x i, e))) ∨ (¬ mtc e m i ∧ eG 26 [x, (m : Int), (i : Int), 1, (j : Int)] e = eG 25 [x, (m : Int), ((i + 1 : Nat) : Int)] e)
  | 0, j, hd, hj => by
    left
    have ej : j = m := by omega
    rw [ej] at hj
    refine ⟨⟨hl, hj⟩, ?_⟩
    rw [eG_175_75]
    unfold eM175_75 anw
    rw [if_pos (by omega), if_neg (by decide), Int.toNat_natCast]
    by_cases q : e 184 i ≠ 0
    · rw [if_pos q, if_pos q]
    · rw [if_neg q, if_neg q]
  | d + 1, j, hd, hj => by
    have e0 : eG 26 [x, (m : Int), (i : Int), 1, (j : Int)] e = if e 181 ((e 182 i).toNat + j) ≠ e 171 j then eG 26 [x, (m : Int), (i : Int), 0, ((j + 1 : Nat) : Int)] e else eG 26 [x, (m : Int), (i : Int), 1, ((j + 1 : Nat) : Int)] e := by
      rw [eG_175_75]
      conv => lhs; unfold eM175_75
      rw [if_neg (by omega), if_neg (by decide), Int.toNat_natCast, Int.toNat_natCast, ipl_e (by omega), show (e 182 i + (j : Int)).toNat = (e 182 i).toNat + j by omega, show (j : Int) + 1 = ((j + 1 : Nat) : Int) by omega]
    rw [e0]
    by_cases q : e 181 ((e 182 i).toNat + j) ≠ e 171 j
    · rw [if_pos q]
      exact .inr ⟨fun w => q (w.2 j (by omega)), e_in0⟩
    · rw [if_neg q]
      refine e_in h2 hm hl d (j + 1) (by omega) (fun p hp => ?_)
      by_cases ep : p = j
      · rw [ep]
        exact Classical.byContradiction q
      · exact hj p (by omega)
theorem e_out {x : Int} {L : Nat} (hL : e 177 18 = (L : Int)) (hm : m ≤ 2000) (h2 : ∀ i, i < L → 0 ≤ e 182 i ∧ e 182 i < e 183 i ∧ e 183 i ≤ 2000) : ∀ d i : Nat, d + i = L → (∀ q, q < i → ¬ mtc e m q) → (∃ q, q < L ∧ mtc e m q ∧ eG 25 [x, (m : Int), (i : Int)] e = some (some (anw e x q, e))) ∨ ((∀ q, q < L → ¬ mtc e m q) ∧ eG 25 [x, (m : Int), (i : Int)] e = some (some (1099511627776, e)))
  | 0, i, hd, hi => by
    right
    refine ⟨fun q hq => hi q (by omega), ?_⟩
    rw [eG_175_31]
    unfold eM175_31
    rw [if_pos (by omega)]
  | d + 1, i, hd, hi => by
    obtain ⟨b1, b2, b3⟩ := h2 i (by omega)
    have e0 : eG 25 [x, (m : Int), (i : Int)] e = if e 183 i - e 182 i ≠ (m : Int) then eG 26 [x, (m : Int), (i : Int), 0, 0] e else eG 26 [x, (m : Int), (i : Int), 1, 0] e := by
      rw [eG_175_31]
      conv => lhs; unfold eM175_31
      rw [if_neg (by omega), Int.toNat_natCast, imi_e (by omega)]
    rw [e0]
    have nx : ¬ mtc e m i → (∃ q, q < L ∧ mtc e m q ∧ eG 25 [x, (m : Int), ((i + 1 : Nat) : Int)] e = some (some (anw e x q, e))) ∨ ((∀ q, q < L → ¬ mtc e m q) ∧ eG 25 [x, (m : Int), ((i + 1 : Nat) : Int)] e = some (some (1099511627776, e))) := fun hn => by
      refine e_out hL hm h2 d (i + 1) (by omega) (fun q hq => ?_)
      by_cases eq : q = i
      · rw [eq]
        exact hn
      · exact hi q (by omega)
    by_cases q : e 183 i - e 182 i ≠ (m : Int)
    · rw [if_pos q, e_in0]
      exact nx (fun w => q w.1)
    · rw [if_neg q]
      have hl : e 183 i - e 182 i = (m : Int) := Classical.byContradiction q
      rcases e_in (x := x) ⟨b1, by omega⟩ hm hl m 0 (by omega) (fun p hp => absurd hp (Nat.not_lt_zero _)) with ⟨w1, w2⟩ | ⟨w1, w2⟩
      · exact .inl ⟨i, by omega, w1, w2⟩
      · have w2 : eG 26 [x, (m : Int), (i : Int), 1, 0] e = _ := w2
        rw [w2]
        exact nx w1
theorem wd_9 {T : Nat → Int} {a : Nat} : ∀ k : Nat, (∀ j, j < k → 48 ≤ T (a + j)) → 0 ≤ wdn T a k
  | 0, _ => Int.le_refl _
  | k + 1, h => by
    have := wd_9 (T := T) (a := a) k (fun j hj => h j (by omega))
    have h2 := h k (by omega)
    show 0 ≤ wdn T a k * 256 + T (a + k)
    omega
theorem wd_big {T : Nat → Int} {a : Nat} : ∀ k : Nat, 9 ≤ k → (∀ j, j < k → 48 ≤ T (a + j)) → 9223372036854775807 < wdn T a k
  | 0, h, _ => by omega
  | k + 1, h, hT => by
    show 9223372036854775807 < wdn T a k * 256 + T (a + k)
    have h2 := hT k (by omega)
    by_cases q : 9 ≤ k
    · have := wd_big k q (fun j hj => hT j (by omega))
      omega
    · have e : k = 8 := by omega
      subst e
      have z : wdn T a 8 = ((((((T (a + 0) * 256 + T (a + 1)) * 256 + T (a + 2)) * 256 + T (a + 3)) * 256 + T (a + 4)) * 256 + T (a + 5)) * 256 + T (a + 6)) * 256 + T (a + 7) := by
        show (((((((0 * 256 + T (a + 0)) * 256 + T (a + 1)) * 256 + T (a + 2)) * 256 + T (a + 3)) * 256 + T (a + 4)) * 256 + T (a + 5)) * 256 + T (a + 6)) * 256 + T (a + 7) = _
        omega
      have q0 := hT 0 (by omega)
      have q1 := hT 1 (by omega)
      have q2 := hT 2 (by omega)
      have q3 := hT 3 (by omega)
      have q4 := hT 4 (by omega)
      have q5 := hT 5 (by omega)
      have q6 := hT 6 (by omega)
      have q7 := hT 7 (by omega)
      rw [z]
      omega
/-- a name of ours is the tape, exactly where the reference's row is -/
theorem lk_w {T : Nat → Int} {n i : Nat} {w z : Int} (hw : LKw T n w (e 182 i) (e 183 i)) (hn : n ≤ 2000) (h81 : ∀ j, j < n → e 181 j = T j) (hB : ∀ j, j < m → e 171 j = B j) (hz : WDx B m z) (hr : w ≤ 9223372036854775807) : mtc e m i ↔ w = z := by
  obtain ⟨a, b, e1, e2, h1, h2, h3, h4⟩ := hw
  have ha : ∀ j, j < b - a → 48 ≤ T (a + j) ∧ T (a + j) ≤ 122 := fun j hj => by
    have := aln_iff.mp (h3 (a + j) (by omega) (by omega))
    omega
  have b8 : b - a ≤ 8 := Classical.byContradiction fun q => by
    have := wd_big (T := T) (a := a) (b - a) (by omega) (fun j hj => (ha j hj).1)
    omega
  constructor
  · rintro ⟨m1, m2⟩
    have em : m = b - a := by omega
    have eB : ∀ j, j < m → B j = T (a + j) := fun j hj => by
      have := m2 j hj
      rw [e1, Int.toNat_natCast, h81 (a + j) (by omega), hB j hj] at this
      exact this.symm
    have ok : m ≤ 8 ∧ ∀ j, j < m → aln (B j) = true := ⟨by omega, fun j hj => by rw [eB j hj]; exact h3 (a + j) (by omega) (by omega)⟩
    rcases hz with ⟨_, q⟩ | ⟨q, _⟩
    · rw [h4, q, ← em]
      have cg : ∀ k, k ≤ m → wdn T a k = wdn B 0 k := fun k => by
        induction k with
        | zero => intro _; rfl
        | succ k ih =>
          intro hk
          show wdn T a k * 256 + T (a + k) = wdn B 0 k * 256 + B (0 + k)
          rw [ih (by omega), Nat.zero_add, eB k (by omega)]
      exact cg m (Nat.le_refl _)
    · exact absurd ok q
  · intro q
    have pos : 0 < w := by
      rw [h4, show b - a = (b - a - 1) + 1 by omega]
      have w9 := wd_9 (T := T) (a := a) (b - a - 1) (fun j hj => (ha j (by omega)).1)
      have := (ha (b - a - 1) (by omega)).1
      show 0 < wdn T a (b - a - 1) * 256 + T (a + (b - a - 1))
      omega
    rcases hz with ⟨⟨z1, z2⟩, z3⟩ | ⟨_, z3⟩
    · rw [q, z3] at h4
      obtain ⟨k1, k2⟩ := wdn_inj (T := B) (p := 0) (T2 := T) (p2 := a) m (b - a) (fun j hj => by
        rw [Nat.zero_add]
        have := aln_iff.mp (z2 j hj)
        omega) ha h4
      refine ⟨by omega, fun j hj => ?_⟩
      have := k2 j hj
      rw [Nat.zero_add] at this
      rw [e1, Int.toNat_natCast, h81 (a + j) (by omega), hB j hj, this]
    · omega
theorem lk_eq (hS : STK K M) (hB : BTW K M c t e) (hC : ∀ q, q < 6 → K.1 109 q ≤ LIM q) (hR : LKR K.1 K.2.1) (h81 : ∀ j, j < 2000 → e 181 j = K.2.1 181 j) (h82 : ∀ k i, 182 ≤ k ∧ k ≤ 185 → i < 100 → e k i = K.2.1 k i) (h18 : e 177 18 = K.2.1 177 18) (h97 : t 97 1 = (m : Int)) (h170 : e 170 1 = (m : Int)) (hm : m ≤ 2000) (hb : ∀ j, j < m → t 98 j = B j ∧ -128 ≤ B j ∧ B j ≤ 127) (hb2 : ∀ j, j < m → e 171 j = B j) (hr : ∀ j, j < 58 → K.1 106 j ≤ 9223372036854775807) (h96 : t 96 3 = 1) (h20 : e 170 20 = 1) {x z1 z2 : Int} (hw : wG 41 [x] t = some (some (z1, t1))) (he : eG 17 [x] e = some (some (z2, e2))) : z1 = z2 := by
  obtain ⟨z, w1, w2⟩ := w_word h97 hb
  have st := BTW_st hB
  rw [wG_113] at hw
  unfold wM113 at hw
  have ez : wdz t = z := by
    rw [v_wdz] at w1
    cases w1
    rfl
  rw [ez, if_neg (by omega)] at hw
  rw [eG_175] at he
  unfold eM175 at he
  rw [if_neg (by omega)] at he
  by_cases h3 : t 142 14 ≠ 3
  · rw [if_pos h3] at hw
    rw [if_pos (by omega), h170] at he
    have hst := hB.1
    obtain ⟨T, n, N, r1, r2, r3, r4, r5, r6, r7, r8, r9⟩ := hR
    have sh := (BTW_sh hB h3).2
    have hz : SZx (zp t) := fun a ha => by
      rw [zp_o (by omega), hst 111 a (by omega)]
      exact hS.2.2.1 a ha
    have hst2 : ∀ k j, 99 ≤ k ∧ k ≤ 114 → zp t k j = K.1 k j := fun k j q => (zp_o (by omega)).trans (hst k j q)
    obtain ⟨L, hL⟩ : ∃ L : Nat, K.2.1 177 18 = (L : Int) := ⟨(K.2.1 177 18).toNat, by omega⟩
    -- the reference's table while it looks
    obtain ⟨f, hf⟩ : ∃ f, f = up2 e 170 1 0 := ⟨_, rfl⟩
    have fo : ∀ k j, k ≠ 170 → f k j = e k j := fun k j q => by rw [hf]; exact up_nk q
    have f18 : f 177 18 = (L : Int) := by rw [fo 177 18 (by omega), h18, hL]
    have fr : ∀ i, i < L → f 182 i = K.2.1 182 i ∧ f 183 i = K.2.1 183 i ∧ f 184 i = K.2.1 184 i ∧ f 185 i = K.2.1 185 i := fun i hi => ⟨by rw [fo 182 i (by omega), h82 182 i (by omega) (by omega)], by rw [fo 183 i (by omega), h82 183 i (by omega) (by omega)], by rw [fo 184 i (by omega), h82 184 i (by omega) (by omega)], by rw [fo 185 i (by omega), h82 185 i (by omega) (by omega)]⟩
    have g2 : ∀ i, i < L → 0 ≤ f 182 i ∧ f 182 i < f 183 i ∧ f 183 i ≤ 2000 := fun i hi => by
      obtain ⟨j, q1, q2, q3, q4, a, b, a1, a2, a3, a4, _⟩ := r8 i (by omega)
      obtain ⟨p1, p2, _⟩ := fr i hi
      omega
    have f81 : ∀ j, j < n → f 181 j = T j := fun j hj => by rw [fo 181 j (by omega), h81 j (by omega)]; exact r4 j hj
    have f71 : ∀ j, j < m → f 171 j = B j := fun j hj => by rw [fo 171 j (by omega)]; exact hb2 j hj
    -- which rows are the tape
    have key : ∀ i j, i < L → j < N → LKw T n (K.1 106 j) (K.2.1 182 i) (K.2.1 183 i) → (mtc f m i ↔ K.1 106 j = z) := fun i j hi hj q => by
      obtain ⟨p1, p2, _⟩ := fr i hi
      rw [← p1, ← p2] at q
      exact lk_w q r3 f81 f71 w2 (hr j (by omega))
    have h105 : t 105 3 = (N : Int) := (hst 105 3 (by omega)).trans r1
    have k7 : ∀ j : Nat, t 107 j = K.1 107 j := fun j => hst 107 j (by omega)
    have k8 : ∀ j : Nat, t 108 j = K.1 108 j := fun j => hst 108 j (by omega)
    have k6 : ∀ j : Nat, t 106 j = K.1 106 j := fun j => hst 106 j (by omega)
    have fl := fdl_lt (t := t) (w := z) N
    -- our search
    have ef : fdn (up2 t 97 1 0) z 0 = fdl t z N := by
      have q : (up2 t 97 1 0) 105 3 = (N : Int) := h105
      unfold fdn
      rw [q, Int.toNat_natCast, fdl_u, show mxx 0 0 = 0 from by decide]
      split <;> omega
    -- one value
    have val : ∀ i j, i < L → j < N → K.1 107 j ≤ 1 → K.2.1 184 i = K.1 107 j → K.2.1 185 i = K.1 108 j → anw f x i = if K.1 107 j = 0 then vrx t (K.1 108 j) else itw t (K.1 108 j) x := fun i j hi hj h1 q4 q5 => by
      obtain ⟨_, _, p4, p5⟩ := fr i hi
      obtain ⟨s1, s2, s3⟩ := r6 j hj
      obtain ⟨a, ha⟩ : ∃ a : Nat, K.1 108 j = (a : Int) := ⟨(K.1 108 j).toNat, by omega⟩
      unfold anw
      rw [p4, p5, q4, q5, ha, Int.toNat_natCast]
      by_cases h0 : K.1 107 j = 0
      · rw [if_neg (fun q => q h0), if_pos h0]
        rw [h0, show kcn 0 = 0 from by decide] at s3
        have l0 := hC 0 (by omega)
        have e0 : LIM 0 = 24 := rfl
        unfold vrx
        rw [if_pos ⟨by omega, by omega⟩, Int.toNat_natCast, fo 203 a (by omega), sh.1 a (by omega), zp_o (by omega)]
      · rw [if_pos h0, if_neg h0, it_z hz]
        have e1 : K.1 107 j = 1 := by omega
        rw [e1, show kcn 1 = 1 from by decide] at s3
        have l1 := hC 1 (by omega)
        have e0 : LIM 1 = 6 := rfl
        have bn : bnd K.1 (24 + a) := ⟨fun q => by omega, fun q => by omega⟩
        obtain ⟨i1, i2, i3⟩ := ar_ix sh hst2 hz (a := a) (by omega) bn x
        unfold itx
        rw [if_pos ⟨by omega, by omega⟩, fo (213 + a) _ (by omega), fo 180 a (by omega), ← i1, sh.2.1 a _ (by omega) (by omega)]
        refine congrArg (zp t 149) ?_
        omega
    have un : ∀ j j2, j < N → j2 < N → K.1 106 j = z → K.1 106 j2 = z → j = j2 := fun j j2 q1 q2 q3 q4 => by
      by_cases a : j < j2
      · exact absurd (q3.trans q4.symm) (r5 j j2 a q2)
      · by_cases b : j2 < j
        · exact absurd (q4.trans q3.symm) (r5 j2 j b q1)
        · omega
    have nk : nkd (up2 t 97 1 0) (fdl t z N) = if 0 ≤ fdl t z N ∧ fdl t z N < (N : Int) then K.1 107 (fdl t z N).toNat else -1 := by
      unfold nkd
      rw [show (up2 t 97 1 0) 105 3 = (N : Int) from h105, show (up2 t 97 1 0) 107 (fdl t z N).toNat = K.1 107 (fdl t z N).toNat from k7 _]
    have nn : 0 ≤ fdl t z N → nnm (up2 t 97 1 0) (fdl t z N) = K.1 108 (fdl t z N).toNat := fun q => by
      unfold nnm
      rw [show (up2 t 97 1 0) 105 3 = (N : Int) from h105, if_pos ⟨q, by omega⟩]
      exact k8 _
    rw [ef, nk] at hw
    rcases e_out (x := x) f18 hm g2 L 0 (by omega) (fun q hq => absurd hq (Nat.not_lt_zero _)) with ⟨i, i1, i2, i3⟩ | ⟨i1, i3⟩
    · -- found
      have i3 : eG 25 [x, (m : Int), 0] f = some (some (anw f x i, f)) := i3
      rw [← hf, i3] at he
      cases he
      obtain ⟨j, q1, q2, q3, q4, q5⟩ := r8 i (by omega)
      have wz := (key i j i1 q1 q5).mp i2
      have fle := fd_le (s := t) (v := z) N j q1 ((k6 j).trans wz)
      have fat := fd_at (t := t) (w := z) N (by omega)
      rw [k6] at fat
      have ej := un _ j (by omega) q1 fat wz
      rw [if_pos (show 0 ≤ fdl t z N ∧ fdl t z N < (N : Int) from ⟨by omega, by omega⟩), nn (by omega), ej] at hw
      rw [val i j i1 q1 q2 q3 q4]
      have s1 := (r6 j q1).1
      by_cases h0 : K.1 107 j = 0
      · rw [if_neg (fun q => q h0)] at hw
        rw [if_pos h0]
        cases hw
        rfl
      · rw [if_pos h0, if_neg (show ¬ K.1 107 j ≠ 1 by omega)] at hw
        rw [if_neg h0]
        cases hw
        rfl
    · have i3 : eG 25 [x, (m : Int), 0] f = some (some (1099511627776, f)) := i3
      rw [← hf, i3] at he
      cases he
      by_cases q : 0 ≤ fdl t z N
      · have fat := fd_at (t := t) (w := z) N q
        rw [k6] at fat
        have big : ¬ K.1 107 (fdl t z N).toNat ≤ 1 := fun h1 => by
          obtain ⟨i, p1, p2, p3, p4⟩ := r9 _ (by omega) h1
          exact i1 i (by omega) ((key i _ (by omega) (by omega) p4).mpr fat)
        rw [if_pos (show 0 ≤ fdl t z N ∧ fdl t z N < (N : Int) from ⟨q, by omega⟩), if_pos (show K.1 107 (fdl t z N).toNat ≠ 0 by omega), if_pos (show K.1 107 (fdl t z N).toNat ≠ 1 by omega)] at hw
        cases hw
        rfl
      · rw [if_neg (show ¬ (0 ≤ fdl t z N ∧ fdl t z N < (N : Int)) from fun w => q w.1), if_pos (show (-1 : Int) ≠ 0 by decide), if_pos (show (-1 : Int) ≠ 1 by decide)] at hw
        cases hw
        rfl
  · rw [if_neg h3] at hw
    rw [if_neg (by omega)] at he
    cases hw
    cases he
    rfl
end LOOKX
