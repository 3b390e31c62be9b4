/-! The reference's tokens. -/
/-- its kind of a token -/
def rkn (k : Int) : Int := if k = 3 then 0 else if k = 1 then 1 else if 300 ≤ k ∧ k ≤ 314 then 2 else if k = 2 then 3 else if k = 4 then 5 else 4
/-- the text in its table -/
def RTx (T : Nat → Int) (n : Nat) (t : tab) : Prop := t 170 2 = (n : Int) ∧ n ≤ 2000 ∧ ∀ j, j < n → t 171 j = T j ∧ -128 ≤ T j ∧ T j ≤ 127
/-- the token at hand -/
def RTk (T : Nat → Int) (n p : Nat) (t : tab) : Prop := t 170 5 = (p : Int) ∧ t 170 3 = ((nx T n p : Nat) : Int) ∧ t 170 6 = ((nx T n p : Nat) : Int) ∧ t 170 4 = rkn (kd T n p) ∧ (kd T n p = 2 → t 170 7 = vl9 T n p)
theorem RTx_up {T : Nat → Int} {n k j : Nat} {z : Int} {t : tab} (h : RTx T n t) (hk : ¬ (k = 170 ∧ j = 2) ∧ k ≠ 171) : RTx T n (up2 t k j z) := by
  refine ⟨(if_neg (by omega)).trans h.1, h.2.1, fun i hi => ?_⟩
  rw [show up2 t k j z 171 i = t 171 i from if_neg (by omega)]
  exact h.2.2 i hi
theorem RTx_fr {T : Nat → Int} {n : Nat} {t t2 : tab} (h : RTx T n t) (hf : ∀ k j, ¬ (k = 170 ∧ (j = 3 ∨ j = 4 ∨ j = 5 ∨ j = 6 ∨ j = 7)) → t2 k j = t k j) : RTx T n t2 := by
  refine ⟨(hf 170 2 (by omega)).trans h.1, h.2.1, fun i hi => ?_⟩
  rw [hf 171 i (by omega)]
  exact h.2.2 i hi
theorem txn4 : txn (4 : Int) = 73 := by decide
/-- starts and lengths of the reserved words in their text -/
def wst (i : Nat) : Nat := [0, 4, 8, 14, 19, 22, 26, 31, 35, 38, 43, 49, 56, 60, 67].getD i 72
def wln (i : Nat) : Nat := [3, 3, 5, 4, 2, 3, 4, 3, 2, 4, 5, 6, 3, 6, 4].getD i 0
def wix (k : Nat) : Nat := (List.range 15).findIdx (fun i => decide (wst i = k))
def wch (j : Nat) : Int := txc 4 (j : Int)
theorem w_sp : ∀ k : Fin 72, wch k = 32 → wix k < 15 ∧ wst (wix k) = k := by decide +kernel
theorem w_at : ∀ i : Fin 15, wch (wst i) = 32 ∧ wch (wst i + 1 + wln i) = 32 ∧ 1 ≤ wln i ∧ wln i ≤ 6 ∧ wst i + wln i + 1 < 73 ∧ (∀ j : Fin 6, (j : Nat) < wln i → 97 ≤ wch (wst i + 1 + j) ∧ wch (wst i + 1 + j) ≤ 122) ∧ wdn wch (wst i + 1) (wln i) = RWf i ∧ rwi (RWf i) RWl 0 = some (i : Nat) := by decide +kernel
theorem rwi_some {w : Int} : ∀ (l : List Int) (i k : Nat), rwi w l i = some k → i ≤ k ∧ l[k - i]? = some w
  | [], i, k, h => by cases h
  | x :: l, i, k, h => by
    have h : (if x = w then some i else rwi w l (i + 1)) = some k := h
    split at h
    · rename_i e
      cases h
      refine ⟨Nat.le_refl _, ?_⟩
      rw [Nat.sub_self, e]
      rfl
    · have := rwi_some l (i + 1) k h
      refine ⟨by omega, ?_⟩
      rw [show k - i = (k - (i + 1)) + 1 by omega]
      exact this.2
theorem rwi_RW {w : Int} {k : Nat} (h : rwi w RWl 0 = some k) : k < 15 ∧ RWf k = w := by
  have h1 := (rwi_some RWl 0 k h).2
  rw [Nat.sub_zero] at h1
  refine ⟨(List.getElem?_eq_some_iff.mp h1).1, ?_⟩
  unfold RWf
  rw [List.getD_eq_getElem?_getD, h1]
  rfl
theorem wdn_congr {T T2 : Nat → Int} {p p2 : Nat} : ∀ k, (∀ j, j < k → T (p + j) = T2 (p2 + j)) → wdn T p k = wdn T2 p2 k
  | 0, _ => rfl
  | k + 1, h => by
    show wdn T p k * 256 + T (p + k) = wdn T2 p2 k * 256 + T2 (p2 + k)
    rw [wdn_congr k (fun j hj => h j (by omega)), h k (by omega)]
section RTOK
variable {T : Nat → Int} {n p m : Nat} {t : tab}
/-- the letters of the token stand in the text of words behind k -/
def wmt (T : Nat → Int) (p m k : Nat) : Prop := k + m + 1 < 73 ∧ wch k = 32 ∧ wch (k + m + 1) = 32 ∧ ∀ j, j < m → wch (k + 1 + j) = T (p + j)
theorem ri_0 {k i : Nat} : rG 41 [(m : Int), (k : Int), 0, (i : Int)] t = rG 40 [(m : Int), ipl (k : Int) 1] t := by
  rw [rG_126_61]
  unfold rM126_61
  split <;> rw [if_pos rfl]
theorem ri_1 (hx : RTx T n t) (h5 : t 170 5 = (p : Int)) {k : Nat} (hk : k + m + 1 < 73) (hpm : p + m ≤ n) : ∀ (d i : Nat), m - i = d → i ≤ m → ((∀ j, i ≤ j → j < m → wch (k + 1 + j) = T (p + j)) → rG 41 [(m : Int), (k : Int), 1, (i : Int)] t = some (some (1, t))) ∧ ((∃ j, i ≤ j ∧ j < m ∧ wch (k + 1 + j) ≠ T (p + j)) → rG 41 [(m : Int), (k : Int), 1, (i : Int)] t = rG 40 [(m : Int), ipl (k : Int) 1] t) := by
  have h2 := hx.2.1
  intro d
  induction d with
  | zero =>
    intro i hd hi
    refine ⟨fun _ => ?_, fun ⟨j, j1, j2, _⟩ => absurd j1 (by omega)⟩
    rw [rG_126_61]
    unfold rM126_61
    rw [if_pos (by omega), if_neg (by decide)]
  | succ d ih =>
    intro i hd hi
    have e1 : ipl (ipl (k : Int) 1) (i : Int) = ((k + 1 + i : Nat) : Int) := by rw [ipl_e (a := (k : Int)) (by omega), ipl_e (by omega)]; omega
    have e2 : t 171 ((ipl (t 170 5) (i : Int)).toNat) = T (p + i) := by
      rw [h5, ipl_e (by omega), show (p : Int) + (i : Int) = ((p + i : Nat) : Int) by omega, Int.toNat_natCast]
      exact (hx.2.2 (p + i) (by omega)).1
    have ih2 := ih (i + 1) (by omega) (by omega)
    have hstep : wch (k + 1 + i) = T (p + i) → rG 41 [(m : Int), (k : Int), 1, (i : Int)] t = rG 41 [(m : Int), (k : Int), 1, ((i + 1 : Nat) : Int)] t := fun e => by
      conv => lhs; rw [rG_126_61]
      unfold rM126_61
      rw [if_neg (by omega), if_neg (by decide), e1, e2, if_neg (fun q => q e)]
      rfl
    refine ⟨fun hall => ?_, fun ⟨j, j1, j2, j3⟩ => ?_⟩
    · rw [hstep (hall i (Nat.le_refl _) (by omega))]
      exact ih2.1 fun j a b => hall j (by omega) b
    · by_cases e : wch (k + 1 + i) = T (p + i)
      · rw [hstep e]
        exact ih2.2 ⟨j, by rcases Nat.lt_or_ge i j with h | h; exact h; exact absurd e (by rw [show i = j by omega]; exact j3), j2, j3⟩
      · conv => lhs; rw [rG_126_61]
        unfold rM126_61
        rw [if_neg (by omega), if_neg (by decide), e1, e2, if_pos (show txc 4 ((k + 1 + i : Nat) : Int) ≠ T (p + i) from e)]
        exact ri_0 (i := i + 1)
theorem ri_out (hx : RTx T n t) (h5 : t 170 5 = (p : Int)) (hpm : p + m ≤ n) (hm : m ≤ 2000) : ∀ (d k : Nat), 73 - k = d → k ≤ 73 → ((∃ k2, k ≤ k2 ∧ wmt T p m k2) → rG 40 [(m : Int), (k : Int)] t = some (some (1, t))) ∧ (¬ (∃ k2, k ≤ k2 ∧ wmt T p m k2) → rG 40 [(m : Int), (k : Int)] t = some (some (0, t))) := by
  intro d
  induction d with
  | zero =>
    intro k hd hk
    refine ⟨fun ⟨k2, a, b⟩ => absurd b.1 (by omega), fun _ => ?_⟩
    rw [rG_126_15]
    unfold rM126_15
    rw [txn4, ipl_e (a := (k : Int)) (by omega), ipl_e (by omega), if_pos (by omega)]
  | succ d ih =>
    intro k hd hk
    have ih2 := ih (k + 1) (by omega) (by omega)
    have e1 : ipl (ipl (k : Int) (m : Int)) 1 = ((k + m + 1 : Nat) : Int) := by rw [ipl_e (a := (k : Int)) (by omega), ipl_e (by omega)]; omega
    have e2 : ipl (k : Int) 1 = ((k + 1 : Nat) : Int) := by rw [ipl_e (by omega)]; omega
    by_cases hl : k + m + 1 < 73
    · by_cases hm1 : wmt T p m k
      · refine ⟨fun _ => ?_, fun hn => absurd ⟨k, Nat.le_refl _, hm1⟩ hn⟩
        rw [rG_126_15]
        unfold rM126_15
        rw [txn4, e1, if_neg (by omega), if_neg (fun q => q hm1.2.1), if_neg (fun q => q hm1.2.2.1)]
        exact (ri_1 hx h5 hl hpm m 0 rfl (Nat.zero_le _)).1 fun j _ b => hm1.2.2.2 j b
      · have hgo : rG 40 [(m : Int), (k : Int)] t = rG 40 [(m : Int), ((k + 1 : Nat) : Int)] t := by
          rw [← e2]
          conv => lhs; rw [rG_126_15]
          unfold rM126_15
          rw [txn4, e1, if_neg (by omega)]
          by_cases a1 : wch k = 32
          · rw [if_neg (fun q => q a1)]
            by_cases a2 : wch (k + m + 1) = 32
            · rw [if_neg (fun q => q a2)]
              refine (ri_1 hx h5 hl hpm m 0 rfl (Nat.zero_le _)).2 ?_
              exact Classical.byContradiction fun hn => hm1 ⟨hl, a1, a2, fun j hj => Classical.byContradiction fun hj2 => hn ⟨j, Nat.zero_le _, hj, hj2⟩⟩
            · rw [if_pos (show txc 4 ((k + m + 1 : Nat) : Int) ≠ 32 from a2)]
              exact ri_0 (i := 0)
          · rw [if_pos (show txc 4 (k : Int) ≠ 32 from a1)]
            exact ri_0 (i := 0)
        rw [hgo]
        refine ⟨fun ⟨k2, a, b⟩ => ih2.1 ⟨k2, ?_, b⟩, fun hn => ih2.2 fun ⟨k2, a, b⟩ => hn ⟨k2, by omega, b⟩⟩
        rcases Nat.lt_or_ge k k2 with h | h
        · exact h
        · exact absurd (by rw [show k = k2 by omega]; exact b) hm1
    · refine ⟨fun ⟨k2, a, b⟩ => absurd b.1 (by omega), fun _ => ?_⟩
      rw [rG_126_15]
      unfold rM126_15
      rw [txn4, e1, if_pos (by omega)]
theorem wmt_iff (hall : ∀ j, j < m → aln (T (p + j)) = true) (hm : 1 ≤ m) : (∃ k, wmt T p m k) ↔ ∃ i, rwi (wdn T p m) RWl 0 = some i := by
  have hr : ∀ j, j < m → 48 ≤ T (p + j) ∧ T (p + j) ≤ 122 := fun j hj => by have := aln_iff.mp (hall j hj); omega
  constructor
  · rintro ⟨k, a1, a2, a3, a4⟩
    obtain ⟨b1, b2⟩ := w_sp ⟨k, by omega⟩ a2
    obtain ⟨c1, c2, c3, c4, c5, c6, c7, c8⟩ := w_at ⟨wix k, b1⟩
    have b2 : wst (wix k) = k := b2
    have c2 : wch (wst (wix k) + 1 + wln (wix k)) = 32 := c2
    have c4 : wln (wix k) ≤ 6 := c4
    have c6 : ∀ j : Fin 6, (j : Nat) < wln (wix k) → 97 ≤ wch (wst (wix k) + 1 + j) ∧ wch (wst (wix k) + 1 + j) ≤ 122 := c6
    have c7 : wdn wch (wst (wix k) + 1) (wln (wix k)) = RWf (wix k) := c7
    have c8 : rwi (RWf (wix k)) RWl 0 = some (wix k) := c8
    rw [b2] at c2 c6 c7
    have hml : m = wln (wix k) := by
      rcases Nat.lt_trichotomy m (wln (wix k)) with h | h | h
      · have := c6 ⟨m, by omega⟩ h
        have e : k + 1 + m = k + m + 1 := by omega
        rw [show k + 1 + ((⟨m, by omega⟩ : Fin 6) : Nat) = k + m + 1 from e, a3] at this
        omega
      · exact h
      · have h1 := a4 _ h
        have h2 := hr _ h
        rw [c2] at h1
        omega
    refine ⟨wix k, ?_⟩
    rw [wdn_congr (T2 := wch) (p2 := k + 1) m (fun j hj => (a4 j hj).symm), hml, c7]
    exact c8
  · rintro ⟨i, hi⟩
    obtain ⟨b1, b2⟩ := rwi_RW hi
    obtain ⟨c1, c2, c3, c4, c5, c6, c7, c8⟩ := w_at ⟨i, b1⟩
    have c1 : wch (wst i) = 32 := c1
    have c2 : wch (wst i + 1 + wln i) = 32 := c2
    have c4 : wln i ≤ 6 := c4
    have c5 : wst i + wln i + 1 < 73 := c5
    have c6 : ∀ j : Fin 6, (j : Nat) < wln i → 97 ≤ wch (wst i + 1 + j) ∧ wch (wst i + 1 + j) ≤ 122 := c6
    have c7 : wdn wch (wst i + 1) (wln i) = RWf i := c7
    obtain ⟨d1, d2⟩ := wdn_inj m (wln i) hr (fun j hj => by have := c6 ⟨j, by omega⟩ hj; have e : wst i + 1 + ((⟨j, by omega⟩ : Fin 6) : Nat) = wst i + 1 + j := rfl; rw [e] at this; omega) (b2.symm.trans c7.symm)
    subst d1
    exact ⟨wst i, c5, c1, by rw [show wst i + wln i + 1 = wst i + 1 + wln i by omega]; exact c2, fun j hj => (d2 j hj).symm⟩
/-- isReserved -/
theorem r_resv (hx : RTx T n t) (h5 : t 170 5 = (p : Int)) {e : Nat} (h6 : t 170 6 = (e : Int)) (hpe : p < e) (hen : e ≤ n) (hall : ∀ j, p ≤ j → j < e → aln (T j) = true) : ((∃ i, rwi (wdn T p (e - p)) RWl 0 = some i) → rG 3 [] t = some (some (1, t))) ∧ (¬ (∃ i, rwi (wdn T p (e - p)) RWl 0 = some i) → rG 3 [] t = some (some (0, t))) := by
  have h2 := hx.2.1
  have hm : imi (t 170 6) (t 170 5) = ((e - p : Nat) : Int) := by rw [h5, h6, imi_e (by omega)]; omega
  have hw := wmt_iff (T := T) (p := p) (m := e - p) (fun j hj => hall (p + j) (by omega) (by omega)) (by omega)
  have ho := ri_out hx h5 (m := e - p) (by omega) (by omega) 73 0 rfl (by omega)
  rw [rG_126]
  unfold rM126
  rw [hm, ← hw]
  refine ⟨fun ⟨k, hk⟩ => ho.1 ⟨k, Nat.zero_le _, hk⟩, fun hn => ho.2 fun ⟨k, _, hk⟩ => hn ⟨k, hk⟩⟩
/-- blanks are passed -/
theorem rs_blank : ∀ (d q : Nat) (t : tab), n - q = d → RTx T n t → t 170 3 = (q : Int) → q ≤ n → rG 42 [] t = rG 42 [] (up2 t 170 3 ((upto blk T n q : Nat) : Int)) := by
  intro d
  induction d with
  | zero =>
    intro q t hd h h3 hq
    rw [upto_no (by omega), ← h3, up_id]
  | succ d ih =>
    intro q t hd h h3 hq
    by_cases hb : blk (T q) = true
    · rw [upto_yes (by omega) hb]
      have e := ih (q + 1) (up2 t 170 3 ((q : Int) + 1)) (by omega) (RTx_up h (by omega)) (by rw [up_self]; omega) (by omega)
      rw [up_up] at e
      rw [← e]
      conv => lhs; rw [rG_123_99999]
      unfold rM123_99999
      have h1 := h.1
      have h2 := h.2.1
      have hb2 := blk_iff.mp hb
      have ha := (h.2.2 q (by omega)).1
      rw [if_neg (by omega), h3, Int.toNat_natCast, ha, ipl_e (by omega)]
      rcases hb2 with hb2 | hb2
      · rw [if_pos hb2]
      · rw [if_neg (by omega), if_neg (by omega)]
    · rw [upto_no (fun e => hb e.2), ← h3, up_id]
theorem nmn_rng {c : Int} (hc : 65536 ≤ c) {q : Nat} (hpq : p ≤ q) (hall : ∀ j, p ≤ j → j < q → dgt (T j) = true) : 0 ≤ nmn c T p (q - p) ∧ nmn c T p (q - p) ≤ c := by
  have hd : ∀ j, j < q - p → 48 ≤ T (p + j) ∧ T (p + j) ≤ 57 := fun j hj => dgt_iff.mp (hall (p + j) (by omega) (by omega))
  have := nmn_two (T := T) (p := p) (c := c) (c2 := c) (by omega) (by omega) (q - p) hd
  refine ⟨this.1, ?_⟩
  cases q - p with
  | zero => show (0 : Int) ≤ c; omega
  | succ k => show min _ c ≤ c; omega
/-- digits -/
theorem rs_num : ∀ (d q : Nat) (t : tab), n - q = d → RTx T n t → t 170 3 = (q : Int) → p ≤ q → q ≤ n → upto dgt T n q = upto dgt T n p → (∀ j, p ≤ j → j < q → dgt (T j) = true) → t 170 7 = nmn 100000 T p (q - p) → ∃ t2, rG 44 [] t = some (some (0, t2)) ∧ t2 170 3 = ((upto dgt T n p : Nat) : Int) ∧ t2 170 6 = ((upto dgt T n p : Nat) : Int) ∧ t2 170 4 = (if nmn 100000 T p (upto dgt T n p - p) ≤ 65535 then 3 else 5) ∧ t2 170 7 = nmn 100000 T p (upto dgt T n p - p) ∧ ∀ k j, ¬ (k = 170 ∧ (j = 3 ∨ j = 4 ∨ j = 6 ∨ j = 7)) → t2 k j = t k j := by
  have fin : ∀ (q : Nat) (t : tab), t 170 3 = (q : Int) → q = upto dgt T n p → t 170 7 = nmn 100000 T p (q - p) → ∃ t2, (if 65535 < t 170 7 then some (some (0, up2 (up2 t 170 4 5) 170 6 (t 170 3))) else some (some (0, up2 (up2 t 170 4 3) 170 6 (t 170 3))) : RO) = some (some (0, t2)) ∧ t2 170 3 = ((upto dgt T n p : Nat) : Int) ∧ t2 170 6 = ((upto dgt T n p : Nat) : Int) ∧ t2 170 4 = (if nmn 100000 T p (upto dgt T n p - p) ≤ 65535 then 3 else 5) ∧ t2 170 7 = nmn 100000 T p (upto dgt T n p - p) ∧ ∀ k j, ¬ (k = 170 ∧ (j = 3 ∨ j = 4 ∨ j = 6 ∨ j = 7)) → t2 k j = t k j := by
    intro q t h3 hq h7
    rw [← hq]
    by_cases e : 65535 < t 170 7
    · rw [if_pos e]
      refine ⟨_, rfl, h3, up_self.trans h3, ?_, h7, fun k j hk => (if_neg (by omega)).trans (if_neg (by omega))⟩
      rw [if_neg (by omega)]
      rfl
    · rw [if_neg e]
      refine ⟨_, rfl, h3, up_self.trans h3, ?_, h7, fun k j hk => (if_neg (by omega)).trans (if_neg (by omega))⟩
      rw [if_pos (by omega)]
      rfl
  intro d
  induction d with
  | zero =>
    intro q t hd h h3 hpq hqn hup hall h7
    rw [rG_123_213]
    unfold rM123_213
    have h1 := h.1
    rw [if_pos (by omega)]
    exact fin q t h3 ((upto_no (by omega)).symm.trans hup) h7
  | succ d ih =>
    intro q t hd h h3 hpq hqn hup hall h7
    rw [rG_123_213]
    unfold rM123_213
    have h1 := h.1
    have h2 := h.2.1
    have ha := (h.2.2 q (by omega)).1
    have hg := nmn_rng (T := T) (c := 100000) (by omega) hpq hall
    rw [if_neg (by omega)]
    have e3 : (t 170 3).toNat = q := by rw [h3, Int.toNat_natCast]
    rw [e3, ha]
    by_cases hb : dgt (T q) = true
    · have hb2 := dgt_iff.mp hb
      rw [if_neg (by unfold dgz; rw [if_pos hb2]; decide)]
      have e4 : mnx 100000 (imi (ipl (imu 10 (t 170 7)) (T q)) 48) = nmn 100000 T p (q + 1 - p) := by
        have e5 : imu 10 (t 170 7) = 10 * t 170 7 := by
          unfold imu
          rw [i32_mul, i32_to (by omega) (by omega)]
        rw [e5, ipl_e (by omega), imi_e (by omega), h7, show q + 1 - p = (q - p) + 1 by omega]
        show _ = min (nmn 100000 T p (q - p) * 10 + T (p + (q - p)) - 48) 100000
        rw [show p + (q - p) = q by omega]
        unfold mnx
        omega
      have e6 : ipl (t 170 3) 1 = ((q + 1 : Nat) : Int) := by rw [h3, ipl_e (by omega)]; omega
      rw [e4, e6]
      obtain ⟨t2, a1, a2, a3, a4, a5, a6⟩ := ih (q + 1) (up2 (up2 t 170 7 (nmn 100000 T p (q + 1 - p))) 170 3 ((q + 1 : Nat) : Int)) (by omega) (RTx_up (RTx_up h (by omega)) (by omega)) up_self (by omega) (by omega) ((upto_yes (by omega) hb).symm.trans hup) (fun j j1 j2 => by
        by_cases e : j = q
        · subst e; exact hb
        · exact hall j j1 (by omega)) rfl
      exact ⟨t2, a1, a2, a3, a4, a5, fun k j hk => (a6 k j hk).trans ((if_neg (by omega)).trans (if_neg (by omega)))⟩
    · have hb2 : ¬ (48 ≤ T q ∧ T q ≤ 57) := fun e => hb (dgt_iff.mpr e)
      rw [if_pos (show dgz (T q) = 0 from if_neg hb2)]
      exact fin q t h3 ((upto_no (fun e => hb e.2)).symm.trans hup) h7
theorem rsv_len (hall : ∀ j, j < m → aln (T (p + j)) = true) {i : Nat} (h : rwi (wdn T p m) RWl 0 = some i) : m ≤ 6 := by
  obtain ⟨b1, b2⟩ := rwi_RW h
  obtain ⟨c1, c2, c3, c4, c5, c6, c7, c8⟩ := w_at ⟨i, b1⟩
  have c4 : wln i ≤ 6 := c4
  have c6 : ∀ j : Fin 6, (j : Nat) < wln i → 97 ≤ wch (wst i + 1 + j) ∧ wch (wst i + 1 + j) ≤ 122 := c6
  have c7 : wdn wch (wst i + 1) (wln i) = RWf i := c7
  obtain ⟨d1, d2⟩ := wdn_inj m (wln i) (fun j hj => by have := aln_iff.mp (hall j hj); omega) (fun j hj => by have := c6 ⟨j, by omega⟩ hj; have e : wst i + 1 + ((⟨j, by omega⟩ : Fin 6) : Nat) = wst i + 1 + j := rfl; rw [e] at this; omega) (b2.symm.trans c7.symm)
  omega
/-- letters -/
theorem rs_name : ∀ (d q : Nat) (t : tab), n - q = d → RTx T n t → t 170 5 = (p : Int) → t 170 3 = (q : Int) → p < q → q ≤ n → upto aln T n q = upto aln T n p → (∀ j, p ≤ j → j < q → aln (T j) = true) → ∃ t2, rG 45 [] t = some (some (0, t2)) ∧ t2 170 3 = ((upto aln T n p : Nat) : Int) ∧ t2 170 6 = ((upto aln T n p : Nat) : Int) ∧ t2 170 4 = rkn (nmk T n p) ∧ ∀ k j, ¬ (k = 170 ∧ (j = 3 ∨ j = 4 ∨ j = 6)) → t2 k j = t k j := by
  have fin : ∀ (q : Nat) (t : tab), RTx T n t → t 170 5 = (p : Int) → t 170 3 = (q : Int) → p < q → q ≤ n → q = upto aln T n p → (∀ j, p ≤ j → j < q → aln (T j) = true) → ∃ t2, bo (rG 3 [] (up2 t 170 6 (t 170 3))) (fun z6 t6 => if z6 = 0 then (if 8 < imi (t 170 3) (t 170 5) then some (some (0, up2 (up2 (up2 t 170 6 (t 170 3)) 170 4 5) 170 6 (t 170 3))) else some (some (0, up2 (up2 (up2 t 170 6 (t 170 3)) 170 4 1) 170 6 (t 170 3)))) else some (some (0, up2 (up2 (up2 t 170 6 (t 170 3)) 170 4 2) 170 6 (t 170 3)))) = some (some (0, t2)) ∧ t2 170 3 = ((upto aln T n p : Nat) : Int) ∧ t2 170 6 = ((upto aln T n p : Nat) : Int) ∧ t2 170 4 = rkn (nmk T n p) ∧ ∀ k j, ¬ (k = 170 ∧ (j = 3 ∨ j = 4 ∨ j = 6)) → t2 k j = t k j := by
    intro q t h h5 h3 hpq hqn hq hall
    have h2 := h.2.1
    have hr := r_resv (t := up2 t 170 6 (t 170 3)) (RTx_up h (by omega)) h5 (up_self.trans h3) hpq hqn hall
    have fr : ∀ z : Int, ∀ k j, ¬ (k = 170 ∧ (j = 3 ∨ j = 4 ∨ j = 6)) → (up2 (up2 (up2 t 170 6 (t 170 3)) 170 4 z) 170 6 (t 170 3)) k j = t k j := fun z k j hk => (if_neg (by omega)).trans ((if_neg (by omega)).trans (if_neg (by omega)))
    by_cases hw : ∃ i, rwi (wdn T p (q - p)) RWl 0 = some i
    · rw [hr.1 hw, bo_s, if_neg (by decide), ← hq]
      refine ⟨_, rfl, h3, up_self.trans h3, ?_, fr 2⟩
      obtain ⟨i, hi⟩ := hw
      have hl := rsv_len (fun j hj => hall (p + j) (by omega) (by omega)) hi
      have hi2 := (rwi_RW hi).1
      have e : nmk T n p = 300 + (i : Int) := by
        unfold nmk
        rw [← hq, if_neg (by omega), hi]
      rw [e]
      unfold rkn
      rw [if_neg (by omega), if_neg (by omega), if_pos (by omega)]
      rfl
    · rw [hr.2 hw, bo_s, if_pos rfl]
      have hn : rwi (wdn T p (q - p)) RWl 0 = none := by
        cases e : rwi (wdn T p (q - p)) RWl 0 with
        | none => rfl
        | some i => exact absurd ⟨i, e⟩ hw
      have e1 : imi (t 170 3) (t 170 5) = ((q - p : Nat) : Int) := by rw [h3, h5, imi_e (by omega)]; omega
      rw [e1]
      by_cases h8 : q - p ≤ 8
      · rw [if_neg (by omega), ← hq]
        refine ⟨_, rfl, h3, up_self.trans h3, ?_, fr 1⟩
        have e : nmk T n p = 1 := by
          unfold nmk
          rw [← hq, if_neg (by omega), hn]
        rw [e]
        rfl
      · rw [if_pos (by omega), ← hq]
        refine ⟨_, rfl, h3, up_self.trans h3, ?_, fr 5⟩
        have e : nmk T n p = 4 := by
          unfold nmk
          rw [← hq, if_pos (by omega)]
        rw [e]
        rfl
  intro d
  induction d with
  | zero =>
    intro q t hd h h5 h3 hpq hqn hup hall
    rw [rG_123_94]
    unfold rM123_94
    have h1 := h.1
    rw [if_pos (by omega)]
    exact fin q t h h5 h3 hpq hqn ((upto_no (by omega)).symm.trans hup) hall
  | succ d ih =>
    intro q t hd h h5 h3 hpq hqn hup hall
    rw [rG_123_94]
    unfold rM123_94
    have h1 := h.1
    have h2 := h.2.1
    have ha := (h.2.2 q (by omega)).1
    have e3 : (t 170 3).toNat = q := by rw [h3, Int.toNat_natCast]
    have e6 : ipl (t 170 3) 1 = ((q + 1 : Nat) : Int) := by rw [h3, ipl_e (by omega)]; omega
    rw [if_neg (by omega), e3, ha, e6]
    by_cases hb : aln (T q) = true
    · have hb2 := aln_iff.mp hb
      have go : ∃ t2, rG 45 [] (up2 t 170 3 ((q + 1 : Nat) : Int)) = some (some (0, t2)) ∧ t2 170 3 = ((upto aln T n p : Nat) : Int) ∧ t2 170 6 = ((upto aln T n p : Nat) : Int) ∧ t2 170 4 = rkn (nmk T n p) ∧ ∀ k j, ¬ (k = 170 ∧ (j = 3 ∨ j = 4 ∨ j = 6)) → t2 k j = t k j := by
        obtain ⟨t2, a1, a2, a3, a4, a5⟩ := ih (q + 1) (up2 t 170 3 ((q + 1 : Nat) : Int)) (by omega) (RTx_up h (by omega)) h5 up_self (by omega) (by omega) ((upto_yes (by omega) hb).symm.trans hup) (fun j j1 j2 => by
          by_cases e : j = q
          · subst e; exact hb
          · exact hall j j1 (by omega))
        exact ⟨t2, a1, a2, a3, a4, fun k j hk => (a5 k j hk).trans (if_neg (by omega))⟩
      by_cases hl : 97 ≤ T q ∧ T q ≤ 122
      · rw [if_pos (show ltz (T q) ≠ 0 by unfold ltz; rw [if_pos hl]; decide)]
        exact go
      · rw [if_neg (show ¬ ltz (T q) ≠ 0 by unfold ltz; rw [if_neg hl]; decide), if_neg (show ¬ dgz (T q) = 0 by unfold dgz; rw [if_pos (by omega)]; decide)]
        exact go
    · have hb2 : ¬ (97 ≤ T q ∧ T q ≤ 122 ∨ 48 ≤ T q ∧ T q ≤ 57) := fun e => hb (aln_iff.mpr e)
      rw [if_neg (show ¬ ltz (T q) ≠ 0 by unfold ltz; rw [if_neg (by omega)]; decide), if_pos (show dgz (T q) = 0 by unfold dgz; rw [if_neg (by omega)])]
      exact fin q t h h5 h3 hpq hqn ((upto_no (fun e => hb e.2)).symm.trans hup) hall
theorem rs_one {c d : Int} : rG 43 [c, d] t = rG 46 [c, d, sgz c] t := by
  rw [rG_123_340]
  unfold rM123_340
  by_cases h123 : c = 123
  · rw [if_pos h123, show sgz c = 1 by rw [h123]; rfl]
  rw [if_neg h123]
  by_cases h125 : c = 125
  · rw [if_pos h125, show sgz c = 1 by rw [h125]; rfl]
  rw [if_neg h125]
  by_cases h40 : c = 40
  · rw [if_pos h40, show sgz c = 1 by rw [h40]; rfl]
  rw [if_neg h40]
  by_cases h41 : c = 41
  · rw [if_pos h41, show sgz c = 1 by rw [h41]; rfl]
  rw [if_neg h41]
  by_cases h91 : c = 91
  · rw [if_pos h91, show sgz c = 1 by rw [h91]; rfl]
  rw [if_neg h91]
  by_cases h93 : c = 93
  · rw [if_pos h93, show sgz c = 1 by rw [h93]; rfl]
  rw [if_neg h93]
  by_cases h44 : c = 44
  · rw [if_pos h44, show sgz c = 1 by rw [h44]; rfl]
  rw [if_neg h44]
  by_cases h59 : c = 59
  · rw [if_pos h59, show sgz c = 1 by rw [h59]; rfl]
  rw [if_neg h59]
  by_cases h58 : c = 58
  · rw [if_pos h58, show sgz c = 1 by rw [h58]; rfl]
  rw [if_neg h58]
  by_cases h61 : c = 61
  · rw [if_pos h61, show sgz c = 1 by rw [h61]; rfl]
  rw [if_neg h61]
  by_cases h43 : c = 43
  · rw [if_pos h43, show sgz c = 1 by rw [h43]; rfl]
  rw [if_neg h43]
  by_cases h45 : c = 45
  · rw [if_pos h45, show sgz c = 1 by rw [h45]; rfl]
  rw [if_neg h45]
  by_cases h42 : c = 42
  · rw [if_pos h42, show sgz c = 1 by rw [h42]; rfl]
  rw [if_neg h42]
  by_cases h47 : c = 47
  · rw [if_pos h47, show sgz c = 1 by rw [h47]; rfl]
  rw [if_neg h47]
  by_cases h37 : c = 37
  · rw [if_pos h37, show sgz c = 1 by rw [h37]; rfl]
  rw [if_neg h37]
  by_cases h38 : c = 38
  · rw [if_pos h38, show sgz c = 1 by rw [h38]; rfl]
  rw [if_neg h38]
  by_cases h124 : c = 124
  · rw [if_pos h124, show sgz c = 1 by rw [h124]; rfl]
  rw [if_neg h124]
  by_cases h94 : c = 94
  · rw [if_pos h94, show sgz c = 1 by rw [h94]; rfl]
  rw [if_neg h94]
  by_cases h126 : c = 126
  · rw [if_pos h126, show sgz c = 1 by rw [h126]; rfl]
  rw [if_neg h126]
  by_cases h33 : c = 33
  · rw [if_pos h33, show sgz c = 1 by rw [h33]; rfl]
  rw [if_neg h33]
  by_cases h63 : c = 63
  · rw [if_pos h63, show sgz c = 1 by rw [h63]; rfl]
  rw [if_neg h63]
  by_cases h60 : c = 60
  · rw [if_pos h60, show sgz c = 1 by rw [h60]; rfl]
  rw [if_neg h60]
  by_cases h62 : c = 62
  · rw [if_neg (fun q => q h62), show sgz c = 1 by rw [h62]; rfl]
  · rw [if_pos h62, sgz0 (by unfold sg1; rw [decide_eq_true_eq]; omega)]
theorem rs_two {c d o : Int} : rG 46 [c, d, o] t = rG 47 [o, if sg2 c d = true then 1 else 0] t := by
  rw [rG_123_484]
  unfold rM123_484
  have yes : ∀ h : (d = c ∧ (c = 38 ∨ c = 124 ∨ c = 61 ∨ c = 60 ∨ c = 62) ∨ d = 61 ∧ (c = 33 ∨ c = 60 ∨ c = 62)), sg2 c d = true := fun h => by unfold sg2; rw [decide_eq_true_eq]; exact h
  have no : ∀ h : ¬ (d = c ∧ (c = 38 ∨ c = 124 ∨ c = 61 ∨ c = 60 ∨ c = 62) ∨ d = 61 ∧ (c = 33 ∨ c = 60 ∨ c = 62)), ¬ sg2 c d = true := fun h => by unfold sg2; rw [decide_eq_true_eq]; exact h
  by_cases h1 : d ≠ 61
  · rw [if_pos h1]
    by_cases h2 : d ≠ c
    · rw [if_pos h2, if_neg (no (by omega))]
    · rw [if_neg h2]
      by_cases h3 : c = 38
      · rw [if_pos h3, if_pos (yes (by omega))]
      · rw [if_neg h3]
        by_cases h4 : c = 124
        · rw [if_pos h4, if_pos (yes (by omega))]
        · rw [if_neg h4]
          by_cases h5 : c = 60
          · rw [if_pos h5, if_pos (yes (by omega))]
          · rw [if_neg h5]
            by_cases h6 : c = 62
            · rw [if_neg (fun q => q h6), if_pos (yes (by omega))]
            · rw [if_pos h6, if_neg (no (by omega))]
  · rw [if_neg h1]
    by_cases h3 : c = 61
    · rw [if_pos h3, if_pos (yes (by omega))]
    · rw [if_neg h3]
      by_cases h4 : c = 33
      · rw [if_pos h4, if_pos (yes (by omega))]
      · rw [if_neg h4]
        by_cases h5 : c = 60
        · rw [if_pos h5, if_pos (yes (by omega))]
        · rw [if_neg h5]
          by_cases h6 : c = 62
          · rw [if_pos h6, if_pos (yes (by omega))]
          · rw [if_neg h6, if_pos (by omega), if_neg (no (by omega))]
/-- step() -/
theorem r_step (hx : RTx T n t) {q : Nat} (h3 : t 170 3 = (q : Int)) (hq : q ≤ n) : ∃ t2, rG 4 [] t = some (some (0, t2)) ∧ RTk T n (upto blk T n q) t2 ∧ ∀ k j, ¬ (k = 170 ∧ (j = 3 ∨ j = 4 ∨ j = 5 ∨ j = 6 ∨ j = 7)) → t2 k j = t k j := by
  have hx1 := hx.1
  have hx2 := hx.2.1
  rw [rG_123]
  unfold rM123
  rw [rs_blank _ q t rfl hx h3 hq]
  obtain ⟨p, hp⟩ : ∃ p, p = upto blk T n q := ⟨_, rfl⟩
  rw [← hp]
  have hpn : p ≤ n := by rw [hp]; exact upto_le hq
  have hb : ¬ (p < n ∧ blk (T p) = true) := by rw [hp]; exact upto_end
  obtain ⟨t1, ht1⟩ : ∃ t1, t1 = up2 t 170 3 (p : Int) := ⟨_, rfl⟩
  rw [← ht1]
  have hy : RTx T n t1 := by rw [ht1]; exact RTx_up hx (by omega)
  have f3 : t1 170 3 = (p : Int) := by rw [ht1, up_self]
  have f2 := hy.1
  have hfr : ∀ k j, ¬ (k = 170 ∧ j = 3) → t1 k j = t k j := fun k j e => by rw [ht1]; exact if_neg e
  have e3 : (t1 170 3).toNat = p := by rw [f3, Int.toNat_natCast]
  obtain ⟨t5, ht5⟩ : ∃ t5, t5 = up2 t1 170 5 (p : Int) := ⟨_, rfl⟩
  have hz : RTx T n t5 := by rw [ht5]; exact RTx_up hy (by omega)
  have g5 : t5 170 5 = (p : Int) := by rw [ht5, up_self]
  have g3 : t5 170 3 = (p : Int) := by rw [ht5]; exact f3
  have gfr : ∀ k j, ¬ (k = 170 ∧ (j = 3 ∨ j = 5)) → t5 k j = t k j := fun k j e => by rw [ht5]; exact (if_neg (by omega)).trans (hfr k j (by omega))
  have key : ∃ t2, (if t1 170 3 ≠ t1 170 2 then (if ltz (t1 171 ((t1 170 3).toNat)) = 0 then (if dgz (t1 171 ((t1 170 3).toNat)) = 0 then (if t1 170 2 ≤ ipl (t1 170 3) 1 then rG 43 [t1 171 ((t1 170 3).toNat), 0] (up2 t1 170 5 (t1 170 3)) else rG 43 [t1 171 ((t1 170 3).toNat), t1 171 ((ipl (t1 170 3) 1).toNat)] (up2 t1 170 5 (t1 170 3))) else rG 44 [] (up2 (up2 t1 170 5 (t1 170 3)) 170 7 0)) else rG 45 [] (up2 t1 170 5 (t1 170 3))) else some (some (0, up2 (up2 (up2 t1 170 5 (t1 170 3)) 170 4 0) 170 6 (t1 170 3)))) = some (some (0, t2)) ∧ RTk T n p t2 ∧ ∀ k j, ¬ (k = 170 ∧ (j = 3 ∨ j = 4 ∨ j = 5 ∨ j = 6 ∨ j = 7)) → t2 k j = t k j := by
    rw [e3, f3, f2, ← ht5]
    by_cases hpe : p < n
    · have ha := (hy.2.2 p hpe).1
      rw [if_pos (by omega), ha]
      by_cases hl : ltr (T p) = true
      · have hl2 := ltr_iff.mp hl
        rw [if_neg (show ¬ ltz (T p) = 0 by unfold ltz; rw [if_pos hl2]; decide)]
        have hal : aln (T p) = true := aln_iff.mpr (.inl hl2)
        have hone : rG 45 [] t5 = rG 45 [] (up2 t5 170 3 ((p + 1 : Nat) : Int)) := by
          conv => lhs; rw [rG_123_94]
          unfold rM123_94
          have k1 := hz.1
          rw [if_neg (by omega), g3, Int.toNat_natCast, (hz.2.2 p hpe).1, if_pos (show ltz (T p) ≠ 0 by unfold ltz; rw [if_pos hl2]; decide), ipl_e (by omega)]
          rfl
        rw [hone]
        obtain ⟨t2, a1, a2, a3, a4, a5⟩ := rs_name (T := T) (n := n) (p := p) (n - (p + 1)) (p + 1) (up2 t5 170 3 ((p + 1 : Nat) : Int)) rfl (RTx_up hz (by omega)) g5 up_self (by omega) (by omega) (upto_yes hpe hal).symm (fun j j1 j2 => by rw [show j = p by omega]; exact hal)
        have hnx : nx T n p = upto aln T n p := by unfold nx; rw [if_neg (by omega), if_pos hl]
        refine ⟨t2, a1, ⟨(a5 170 5 (by omega)).trans g5, by rw [hnx]; exact a2, by rw [hnx]; exact a3, by rw [nmk_kd hpe hl]; exact a4, fun hk => ?_⟩, fun k j hk => (a5 k j (by omega)).trans ((if_neg (by omega)).trans (gfr k j (by omega)))⟩
        exfalso
        rw [nmk_kd hpe hl] at hk
        unfold nmk at hk
        split at hk
        · omega
        · split at hk <;> omega
      · have hl2 : ¬ (97 ≤ T p ∧ T p ≤ 122) := fun e => hl (ltr_iff.mpr e)
        rw [if_pos (show ltz (T p) = 0 from if_neg hl2)]
        by_cases hd : dgt (T p) = true
        · have hd2 := dgt_iff.mp hd
          rw [if_neg (show ¬ dgz (T p) = 0 by unfold dgz; rw [if_pos hd2]; decide)]
          obtain ⟨t2, a1, a2, a3, a4, a5, a6⟩ := rs_num (T := T) (n := n) (p := p) (n - p) p (up2 t5 170 7 0) rfl (RTx_up hz (by omega)) g3 (Nat.le_refl _) hpn rfl (fun j j1 j2 => absurd j2 (by omega)) (by rw [Nat.sub_self]; exact up_self)
          have hnx : nx T n p = upto dgt T n p := by unfold nx; rw [if_neg (by omega), if_neg hl, if_pos hd]
          have hk0 : kd T n p = if nmn 65536 T p (upto dgt T n p - p) ≤ 65535 then 2 else 4 := by unfold kd; rw [if_neg (by omega), if_neg hl, if_pos hd]
          have hdd : ∀ j, j < upto dgt T n p - p → 48 ≤ T (p + j) ∧ T (p + j) ≤ 57 := fun j hj => dgt_iff.mp (upto_in (q := dgt) (T := T) (n := n) (p := p) (p + j) (by omega) (by omega)).2
          have htw := nmn_two (T := T) (p := p) (c := 65536) (c2 := 100000) (by omega) (by omega) (upto dgt T n p - p) hdd
          refine ⟨t2, a1, ⟨(a6 170 5 (by omega)).trans g5, by rw [hnx]; exact a2, by rw [hnx]; exact a3, ?_, fun hk => ?_⟩, fun k j hk => (a6 k j (by omega)).trans ((if_neg (by omega)).trans (gfr k j (by omega)))⟩
          · rw [a4, hk0]
            by_cases e : nmn 65536 T p (upto dgt T n p - p) ≤ 65535
            · rw [if_pos e, if_pos (by omega)]
              rfl
            · rw [if_neg e, if_neg (by omega)]
              rfl
          · rw [a5]
            unfold vl9
            rw [if_neg hl]
            rw [hk0] at hk
            split at hk <;> omega
        · have hd2 : ¬ (48 ≤ T p ∧ T p ≤ 57) := fun e => hd (dgt_iff.mpr e)
          rw [if_pos (show dgz (T p) = 0 from if_neg hd2)]
          have hk0 : kd T n p = if sg2 (T p) (nxc T n p) = true then T p * 256 + nxc T n p else if sg1 (T p) = true then T p else 4 := by unfold kd; rw [if_neg (by omega), if_neg hl, if_neg hd]
          have hnx : nx T n p = if sg2 (T p) (nxc T n p) = true then p + 2 else p + 1 := by unfold nx; rw [if_neg (by omega), if_neg hl, if_neg hd]
          have fin : ∀ d : Int, sg2 (T p) d = sg2 (T p) (nxc T n p) → ∃ t2, rG 43 [T p, d] t5 = some (some (0, t2)) ∧ RTk T n p t2 ∧ ∀ k j, ¬ (k = 170 ∧ (j = 3 ∨ j = 4 ∨ j = 5 ∨ j = 6 ∨ j = 7)) → t2 k j = t k j := by
            intro d hdq
            rw [rs_one, rs_two, hdq, rG_123_549]
            unfold rM123_549
            rw [g3, ipl_e (b := 1) (by omega), ipl_e (b := 2) (by omega)]
            have fr : ∀ a b c : Int, ∀ k j, ¬ (k = 170 ∧ (j = 3 ∨ j = 4 ∨ j = 5 ∨ j = 6 ∨ j = 7)) → (up2 (up2 (up2 t5 170 4 a) 170 3 b) 170 6 c) k j = t k j := fun a b c k j hk => (if_neg (by omega)).trans ((if_neg (by omega)).trans ((if_neg (by omega)).trans (gfr k j (by omega))))
            by_cases hs1 : sg1 (T p) = true
            · rw [sgz1 hs1, if_neg (by decide)]
              have hs3 : 33 ≤ T p ∧ T p ≤ 126 := by
                unfold sg1 at hs1
                rw [decide_eq_true_eq] at hs1
                omega
              by_cases hs : sg2 (T p) (nxc T n p) = true
              · rw [if_pos hs, if_neg (by decide)]
                rw [if_pos hs] at hk0 hnx
                refine ⟨_, rfl, ⟨g5, by rw [hnx]; rfl, by rw [hnx]; rfl, ?_, fun hk => ?_⟩, fr _ _ _⟩
                · have hv : 38 ≤ nxc T n p := by unfold sg2 at hs; rw [decide_eq_true_eq] at hs; omega
                  rw [hk0]
                  unfold rkn
                  rw [if_neg (by omega), if_neg (by omega), if_neg (by omega), if_neg (by omega), if_neg (by omega)]
                  rfl
                · have hv : 38 ≤ nxc T n p := by unfold sg2 at hs; rw [decide_eq_true_eq] at hs; omega
                  omega
              · rw [if_neg hs, if_pos rfl]
                rw [if_neg hs] at hk0 hnx
                rw [if_pos hs1] at hk0
                refine ⟨_, rfl, ⟨g5, by rw [hnx]; rfl, by rw [hnx]; rfl, ?_, fun hk => by omega⟩, fr _ _ _⟩
                rw [hk0]
                unfold rkn
                rw [if_neg (by omega), if_neg (by omega), if_neg (by omega), if_neg (by omega), if_neg (by omega)]
                rfl
            · have hs : ¬ sg2 (T p) (nxc T n p) = true := fun e => hs1 (by unfold sg2 at e; unfold sg1; rw [decide_eq_true_eq] at e ⊢; omega)
              rw [sgz0 hs1, if_pos rfl, if_neg hs, if_pos rfl]
              rw [if_neg hs] at hk0 hnx
              rw [if_neg hs1] at hk0
              refine ⟨_, rfl, ⟨g5, by rw [hnx]; rfl, by rw [hnx]; rfl, ?_, fun hk => by omega⟩, fr _ _ _⟩
              rw [hk0]
              rfl
          by_cases hq1 : p + 1 < n
          · rw [if_neg (show ¬ (n : Int) ≤ ipl (p : Int) 1 by rw [ipl_e (by omega)]; omega)]
            have e7 : t1 171 ((ipl (p : Int) 1).toNat) = nxc T n p := by
              rw [ipl_e (by omega), show (p : Int) + 1 = ((p + 1 : Nat) : Int) from rfl, Int.toNat_natCast, (hy.2.2 (p + 1) hq1).1]
              unfold nxc
              rw [if_pos hq1]
            rw [e7]
            exact fin _ rfl
          · rw [if_pos (show (n : Int) ≤ ipl (p : Int) 1 by rw [ipl_e (by omega)]; omega)]
            refine fin 0 ?_
            have e8 : nxc T n p = -1 := by unfold nxc; rw [if_neg hq1]
            rw [e8]
            unfold sg2
            rw [decide_eq_decide]
            omega
    · have hpe2 : p = n := by omega
      rw [if_neg (by omega)]
      have hk0 : kd T n p = 3 := kd_end.mpr (by omega)
      have hnx : nx T n p = p := by unfold nx; exact if_pos (by omega)
      refine ⟨_, rfl, ⟨g5, by rw [hnx]; exact g3, by rw [hnx]; rfl, by rw [hk0]; rfl, fun hk => by omega⟩, fun k j hk => (if_neg (by omega)).trans ((if_neg (by omega)).trans (gfr k j (by omega)))⟩
  rw [rG_123_99999]
  unfold rM123_99999
  by_cases hpe : p < n
  · have hb2 : ¬ (T p = 32 ∨ T p = 10) := fun e => hb ⟨hpe, blk_iff.mpr e⟩
    have ha := (hy.2.2 p hpe).1
    rw [if_neg (by omega), if_neg (show ¬ t1 171 ((t1 170 3).toNat) = 32 by rw [e3, ha]; omega), if_pos (show t1 171 ((t1 170 3).toNat) ≠ 10 by rw [e3, ha]; omega)]
    exact key
  · rw [if_pos (by omega)]
    exact key
end RTOK
