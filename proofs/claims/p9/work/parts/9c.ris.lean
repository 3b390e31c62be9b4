/-! The reference's questions about tokens. -/
section RIS
variable {T : Nat → Int} {n p : Nat} {t : tab}
theorem ris_loop (hx : RTx T n t) (h5 : t 170 5 = (p : Int)) {q L : Nat} (hL : txn (q : Int) = (L : Int)) (hpL : p + L ≤ n) : ∀ (d k : Nat), L - k = d → k ≤ L → ((∀ j, k ≤ j → j < L → T (p + j) = txc (q : Int) (j : Int)) → rG 48 [(q : Int), (k : Int)] t = some (some (1, t))) ∧ ((∃ j, k ≤ j ∧ j < L ∧ T (p + j) ≠ txc (q : Int) (j : Int)) → rG 48 [(q : Int), (k : Int)] t = some (some (0, t))) := by
  have h2 := hx.2.1
  intro d
  induction d with
  | zero =>
    intro k hd hk
    refine ⟨fun _ => ?_, fun ⟨j, j1, j2, _⟩ => absurd j1 (by omega)⟩
    rw [rG_127_36]
    unfold rM127_36
    rw [hL, if_pos (by omega)]
  | succ d ih =>
    intro k hd hk
    have ih2 := ih (k + 1) (by omega) (by omega)
    have e2 : t 171 ((ipl (t 170 5) (k : Int)).toNat) = T (p + k) := by
      rw [h5, ipl_e (by omega), show (p : Int) + (k : Int) = ((p + k : Nat) : Int) by omega, Int.toNat_natCast]
      exact (hx.2.2 (p + k) (by omega)).1
    by_cases e : T (p + k) = txc (q : Int) (k : Int)
    · have hs : rG 48 [(q : Int), (k : Int)] t = rG 48 [(q : Int), ((k + 1 : Nat) : Int)] t := by
        conv => lhs; rw [rG_127_36]
        unfold rM127_36
        rw [hL, if_neg (by omega), e2, if_pos e]
        rfl
      rw [hs]
      refine ⟨fun h => ih2.1 fun j a b => h j (by omega) b, fun ⟨j, j1, j2, j3⟩ => ih2.2 ⟨j, ?_, j2, j3⟩⟩
      rcases Nat.lt_or_ge k j with h | h
      · exact h
      · exact absurd e (by rw [show k = j by omega]; exact j3)
    · refine ⟨fun h => absurd (h k (Nat.le_refl _) (by omega)) e, fun _ => ?_⟩
      rw [rG_127_36]
      unfold rM127_36
      rw [hL, if_neg (by omega), e2, if_neg e]
/-- the token at hand is the text q -/
def isq (T : Nat → Int) (n p q L : Nat) : Prop := (rkn (kd T n p) = 2 ∨ rkn (kd T n p) = 4) ∧ nx T n p - p = L ∧ ∀ j, j < L → T (p + j) = txc (q : Int) (j : Int)
theorem nx_ge : p ≤ nx T n p := by
  by_cases h : p < n
  · exact Nat.le_of_lt (nx_gt h)
  · unfold nx
    rw [if_pos (by omega)]
    exact Nat.le_refl _
theorem r_is (hx : RTx T n t) (hk : RTk T n p t) (hp : p ≤ n) {q L : Nat} (hL : txn (q : Int) = (L : Int)) : (isq T n p q L → rG 5 [(q : Int)] t = some (some (1, t))) ∧ (¬ isq T n p q L → rG 5 [(q : Int)] t = some (some (0, t))) := by
  have h2 := hx.2.1
  have hn := nx_le (T := T) hp
  have hg := nx_ge (T := T) (n := n) (p := p)
  have e1 : imi (t 170 6) (t 170 5) = ((nx T n p - p : Nat) : Int) := by rw [hk.1, hk.2.2.1, imi_e (by omega)]; omega
  rw [rG_127]
  unfold rM127
  rw [e1, hL, hk.2.2.2.1]
  have mid : (isq T n p q L → (if ((nx T n p - p : Nat) : Int) = (L : Int) then rG 48 [(q : Int), 0] t else some (some (0, t))) = some (some (1, t))) ∧ ((rkn (kd T n p) = 2 ∨ rkn (kd T n p) = 4) → ¬ isq T n p q L → (if ((nx T n p - p : Nat) : Int) = (L : Int) then rG 48 [(q : Int), 0] t else some (some (0, t))) = some (some (0, t))) := by
    refine ⟨fun h => ?_, fun hr h => ?_⟩
    · rw [if_pos (by have := h.2.1; omega)]
      exact (ris_loop hx hk.1 hL (by have := h.2.1; omega) L 0 rfl (Nat.zero_le _)).1 fun j _ b => h.2.2 j b
    · by_cases e : nx T n p - p = L
      · rw [if_pos (by omega)]
        refine (ris_loop hx hk.1 hL (by omega) L 0 rfl (Nat.zero_le _)).2 ?_
        exact Classical.byContradiction fun hn => h ⟨hr, e, fun j hj => Classical.byContradiction fun h9 => hn ⟨j, Nat.zero_le _, hj, h9⟩⟩
      · rw [if_neg (by omega)]
  refine ⟨fun h => ?_, fun h => ?_⟩
  · rcases h.1 with hr | hr
    · rw [if_pos hr]
      exact mid.1 h
    · rw [if_neg (by omega), if_neg (by omega)]
      exact mid.1 h
  · by_cases a : rkn (kd T n p) = 2
    · rw [if_pos a]
      exact mid.2 (.inl a) h
    · rw [if_neg a]
      by_cases b : rkn (kd T n p) = 4
      · rw [if_neg (fun c => c b)]
        exact mid.2 (.inr b) h
      · rw [if_pos b]
theorem rk_0 (h : rkn (kd T n p) = 2 ∨ rkn (kd T n p) = 4) : p < n := by
  rcases Nat.lt_or_ge p n with a | a
  · exact a
  · rw [kd_end.mpr a] at h
    have : rkn 3 = 0 := by decide
    omega
theorem kd_ltr (hp : p < n) (hl : ltr (T p) = true) : kd T n p = 4 ∨ kd T n p = 1 ∨ ∃ i : Nat, kd T n p = 300 + (i : Int) ∧ rwi (wdn T p (upto aln T n p - p)) RWl 0 = some i ∧ upto aln T n p - p ≤ 8 := by
  rw [nmk_kd hp hl]
  unfold nmk
  split
  · exact .inl rfl
  · rename_i h8
    cases e : rwi (wdn T p (upto aln T n p - p)) RWl 0 with
    | none => exact .inr (.inl rfl)
    | some i => exact .inr (.inr ⟨i, rfl, rfl, by omega⟩)
theorem kd_dgt (hp : p < n) (hl : ¬ ltr (T p) = true) (hd : dgt (T p) = true) : kd T n p = 2 ∨ kd T n p = 4 := by
  unfold kd
  rw [if_neg (by omega), if_neg hl, if_pos hd]
  split
  · exact .inl rfl
  · exact .inr rfl
theorem kd_sgn (hp : p < n) (hl : ¬ ltr (T p) = true) (hd : ¬ dgt (T p) = true) : (sg2 (T p) (nxc T n p) = true ∧ kd T n p = T p * 256 + nxc T n p ∧ nx T n p = p + 2) ∨ (¬ sg2 (T p) (nxc T n p) = true ∧ sg1 (T p) = true ∧ kd T n p = T p ∧ nx T n p = p + 1) ∨ (¬ sg2 (T p) (nxc T n p) = true ∧ ¬ sg1 (T p) = true ∧ kd T n p = 4 ∧ nx T n p = p + 1) := by
  unfold kd nx
  rw [if_neg (by omega), if_neg hl, if_neg hd, if_neg (show ¬ n ≤ p by omega), if_neg hl, if_neg hd]
  by_cases h : sg2 (T p) (nxc T n p) = true
  · rw [if_pos h, if_pos h]
    exact .inl ⟨h, rfl, rfl⟩
  · rw [if_neg h, if_neg h]
    by_cases h1 : sg1 (T p) = true
    · rw [if_pos h1]
      exact .inr (.inl ⟨h, h1, rfl, rfl⟩)
    · rw [if_neg h1]
      exact .inr (.inr ⟨h, h1, rfl, rfl⟩)
theorem sg1_r {c : Int} (h : sg1 c = true) : 33 ≤ c ∧ c ≤ 126 := by
  unfold sg1 at h
  rw [decide_eq_true_eq] at h
  omega
theorem sg2_r {c d : Int} (h : sg2 c d = true) : 33 ≤ c ∧ c ≤ 124 ∧ 38 ≤ d ∧ d ≤ 124 := by
  unfold sg2 at h
  rw [decide_eq_true_eq] at h
  omega
theorem sg2_1 {c d : Int} (h : sg2 c d = true) : sg1 c = true := by
  unfold sg2 at h
  unfold sg1
  rw [decide_eq_true_eq] at h ⊢
  omega
/-- signs of one byte -/
theorem kd_one {c : Int} (h1 : sg1 c = true) : kd T n p = c ↔ p < n ∧ T p = c ∧ ¬ sg2 c (nxc T n p) = true := by
  have hc := sg1_r h1
  have n1 : ltr c = true → False := fun e => by have := ltr_iff.mp e; unfold sg1 at h1; rw [decide_eq_true_eq] at h1; omega
  have n2 : dgt c = true → False := fun e => by have := dgt_iff.mp e; unfold sg1 at h1; rw [decide_eq_true_eq] at h1; omega
  constructor
  · intro h
    have hp : p < n := by
      rcases Nat.lt_or_ge p n with a | a
      · exact a
      · rw [kd_end.mpr a] at h; omega
    by_cases hl : ltr (T p) = true
    · rcases kd_ltr hp hl with a | a | ⟨i, a, _⟩ <;> omega
    · by_cases hd : dgt (T p) = true
      · rcases kd_dgt hp hl hd with a | a <;> omega
      · rcases kd_sgn hp hl hd with ⟨a, b, _⟩ | ⟨a, b, d, _⟩ | ⟨a, b, d, _⟩
        · have := sg2_r a; omega
        · have e : T p = c := by omega
          rw [e] at a
          exact ⟨hp, e, a⟩
        · omega
  · rintro ⟨hp, e, h2⟩
    rw [← e] at h2 n1 n2 h1
    rcases kd_sgn hp n1 n2 with ⟨a, b, _⟩ | ⟨a, b, d, _⟩ | ⟨a, b, d, _⟩
    · exact absurd a h2
    · omega
    · exact absurd h1 b
theorem is_s1 (hx : RTx T n t) (hk : RTk T n p t) (hp : p ≤ n) {q : Nat} {c : Int} (hL : txn (q : Int) = 1) (hc : txc (q : Int) 0 = c) (h1 : sg1 c = true) : rG 5 [(q : Int)] t = some (some (if kd T n p = c then 1 else 0, t)) := by
  have hr := r_is hx hk hp (q := q) (L := 1) hL
  have hcr := sg1_r h1
  by_cases e : kd T n p = c
  · rw [if_pos e]
    obtain ⟨a1, a2, a3⟩ := (kd_one h1).mp e
    refine hr.1 ⟨.inr ?_, ?_, fun j hj => ?_⟩
    · rw [e]
      unfold rkn
      rw [if_neg (by omega), if_neg (by omega), if_neg (by omega), if_neg (by omega), if_neg (by omega)]
    · rw [← a2] at h1 a3
      have n1 : ¬ ltr (T p) = true := fun e => by have := ltr_iff.mp e; unfold sg1 at h1; rw [decide_eq_true_eq] at h1; omega
      have n2 : ¬ dgt (T p) = true := fun e => by have := dgt_iff.mp e; unfold sg1 at h1; rw [decide_eq_true_eq] at h1; omega
      rcases kd_sgn a1 n1 n2 with ⟨a, _⟩ | ⟨_, _, _, a⟩ | ⟨_, _, _, a⟩
      · exact absurd a a3
      · omega
      · omega
    · rw [show j = 0 by omega, Nat.add_zero, a2]
      exact hc.symm
  · rw [if_neg e]
    refine hr.2 fun ⟨b1, b2, b3⟩ => e ?_
    have hpn := rk_0 b1
    have b4 := b3 0 (by omega)
    rw [Nat.add_zero] at b4
    have b4 : T p = c := b4.trans hc
    refine (kd_one h1).mpr ⟨hpn, b4, fun h2 => ?_⟩
    rw [← b4] at h1 h2
    have n1 : ¬ ltr (T p) = true := fun e => by have := ltr_iff.mp e; unfold sg1 at h1; rw [decide_eq_true_eq] at h1; omega
    have n2 : ¬ dgt (T p) = true := fun e => by have := dgt_iff.mp e; unfold sg1 at h1; rw [decide_eq_true_eq] at h1; omega
    rcases kd_sgn hpn n1 n2 with ⟨_, _, a⟩ | ⟨a, _⟩ | ⟨a, _⟩
    · omega
    · exact absurd h2 a
    · exact absurd h2 a
theorem is_s2 (hx : RTx T n t) (hk : RTk T n p t) (hp : p ≤ n) {q : Nat} {c d : Int} (hL : txn (q : Int) = 2) (hc : txc (q : Int) 0 = c) (hd : txc (q : Int) 1 = d) (h2 : sg2 c d = true) : rG 5 [(q : Int)] t = some (some (if kd T n p = c * 256 + d then 1 else 0, t)) := by
  have hr := r_is hx hk hp (q := q) (L := 2) hL
  have h1 := sg2_1 h2
  have hcr := sg2_r h2
  have tok : ∀ h : T p = c, ¬ ltr (T p) = true ∧ ¬ dgt (T p) = true := fun h => by
    rw [← h] at h1
    exact ⟨fun e => by have := ltr_iff.mp e; unfold sg1 at h1; rw [decide_eq_true_eq] at h1; omega, fun e => by have := dgt_iff.mp e; unfold sg1 at h1; rw [decide_eq_true_eq] at h1; omega⟩
  by_cases e : kd T n p = c * 256 + d
  · rw [if_pos e]
    have hpn : p < n := by
      rcases Nat.lt_or_ge p n with a | a
      · exact a
      · rw [kd_end.mpr a] at e; omega
    have key : T p = c ∧ nxc T n p = d ∧ nx T n p = p + 2 := by
      by_cases hl : ltr (T p) = true
      · rcases kd_ltr hpn hl with a | a | ⟨i, a, b, _⟩
        · omega
        · omega
        · have := (rwi_RW b).1; omega
      · by_cases hdd : dgt (T p) = true
        · rcases kd_dgt hpn hl hdd with a | a <;> omega
        · rcases kd_sgn hpn hl hdd with ⟨a, b, f⟩ | ⟨a, b, f, _⟩ | ⟨a, b, f, _⟩
          · have := sg2_r a; omega
          · have := sg1_r b; omega
          · omega
    obtain ⟨k1, k2, k3⟩ := key
    refine hr.1 ⟨.inr ?_, by omega, fun j hj => ?_⟩
    · rw [e]
      unfold rkn
      rw [if_neg (by omega), if_neg (by omega), if_neg (by omega), if_neg (by omega), if_neg (by omega)]
    · have : j = 0 ∨ j = 1 := by omega
      rcases this with rfl | rfl
      · rw [Nat.add_zero, k1]; exact hc.symm
      · unfold nxc at k2
        split at k2
        · rw [k2]; exact hd.symm
        · omega
  · rw [if_neg e]
    refine hr.2 fun ⟨b1, b2, b3⟩ => e ?_
    have hpn := rk_0 b1
    have b4 := b3 0 (by omega)
    rw [Nat.add_zero] at b4
    have b4 : T p = c := b4.trans hc
    have b5 : T (p + 1) = d := (b3 1 (by omega)).trans hd
    obtain ⟨n1, n2⟩ := tok b4
    have hle := nx_le (T := T) hp
    have b6 : nxc T n p = d := by
      unfold nxc
      rw [if_pos (by omega)]
      exact b5
    rcases kd_sgn hpn n1 n2 with ⟨_, a, _⟩ | ⟨a, _⟩ | ⟨a, _⟩
    · rw [a, b4, b6]
    · rw [b4, b6] at a; exact absurd h2 a
    · rw [b4, b6] at a; exact absurd h2 a
theorem is_w (hx : RTx T n t) (hk : RTk T n p t) (hp : p ≤ n) {q L i : Nat} (hL : txn (q : Int) = (L : Int)) (h1 : 1 ≤ L) (h8 : L ≤ 8) (hi : i < 15) (hl : ∀ j, j < L → 97 ≤ txc (q : Int) (j : Int) ∧ txc (q : Int) (j : Int) ≤ 122) (hw : wdn (fun j => txc (q : Int) (j : Int)) 0 L = RWf i) : rG 5 [(q : Int)] t = some (some (if kd T n p = 300 + (i : Int) then 1 else 0, t)) := by
  have hr := r_is hx hk hp (q := q) (L := L) hL
  have hri : rwi (RWf i) RWl 0 = some i := (w_at ⟨i, hi⟩).2.2.2.2.2.2.2
  by_cases e : kd T n p = 300 + (i : Int)
  · rw [if_pos e]
    have hpn : p < n := by
      rcases Nat.lt_or_ge p n with a | a
      · exact a
      · rw [kd_end.mpr a] at e; omega
    by_cases hlt : ltr (T p) = true
    · rcases kd_ltr hpn hlt with a | a | ⟨k, a, b, c⟩
      · omega
      · omega
      · have hki : k = i := by omega
        subst hki
        have b2 := (rwi_RW b).2
        obtain ⟨d1, d2⟩ := wdn_inj (T := T) (p := p) (T2 := fun j => txc (q : Int) (j : Int)) (p2 := 0) (upto aln T n p - p) L (fun j hj => by have := aln_iff.mp (upto_in (q := aln) (T := T) (n := n) (p := p) (p + j) (by omega) (by omega)).2; omega) (fun j hj => by have := hl j hj; rw [Nat.zero_add]; omega) (b2.symm.trans hw.symm)
        refine hr.1 ⟨.inl ?_, ?_, fun j hj => ?_⟩
        · rw [e]
          unfold rkn
          rw [if_neg (by omega), if_neg (by omega), if_pos (by omega)]
        · unfold nx
          rw [if_neg (by omega), if_pos hlt]
          exact d1
        · have := d2 j (by omega)
          rw [Nat.zero_add] at this
          exact this
    · by_cases hdd : dgt (T p) = true
      · rcases kd_dgt hpn hlt hdd with a | a <;> omega
      · rcases kd_sgn hpn hlt hdd with ⟨a, b, f⟩ | ⟨a, b, f, _⟩ | ⟨a, b, f, _⟩
        · have := sg2_r a; omega
        · have := sg1_r b; omega
        · omega
  · rw [if_neg e]
    refine hr.2 fun ⟨b1, b2, b3⟩ => e ?_
    have hpn := rk_0 b1
    have b4 := b3 0 (by omega)
    rw [Nat.add_zero] at b4
    have b5 := hl 0 (by omega)
    have hlt : ltr (T p) = true := ltr_iff.mpr (by rw [b4]; exact b5)
    have hnx : nx T n p = upto aln T n p := by unfold nx; rw [if_neg (by omega), if_pos hlt]
    rw [hnx] at b2
    have hww : wdn T p (upto aln T n p - p) = RWf i := by
      rw [b2, ← hw]
      exact wdn_congr L fun j hj => by rw [b3 j hj, Nat.zero_add]
    rw [nmk_kd hpn hlt]
    unfold nmk
    rw [if_neg (by omega), hww, hri]
theorem is_6 (hx : RTx T n t) (hk : RTk T n p t) (hp : p ≤ n) : rG 5 [(6 : Int)] t = some (some (if kd T n p = 300 then 1 else 0, t)) := is_w hx hk hp (q := 6) (L := 3) (i := 0) (by decide +kernel) (by decide) (by decide) (by decide) (by decide +kernel) (by decide +kernel)
theorem is_8 (hx : RTx T n t) (hk : RTk T n p t) (hp : p ≤ n) : rG 5 [(8 : Int)] t = some (some (if kd T n p = 301 then 1 else 0, t)) := is_w hx hk hp (q := 8) (L := 3) (i := 1) (by decide +kernel) (by decide) (by decide) (by decide) (by decide +kernel) (by decide +kernel)
theorem is_10 (hx : RTx T n t) (hk : RTk T n p t) (hp : p ≤ n) : rG 5 [(10 : Int)] t = some (some (if kd T n p = 302 then 1 else 0, t)) := is_w hx hk hp (q := 10) (L := 5) (i := 2) (by decide +kernel) (by decide) (by decide) (by decide) (by decide +kernel) (by decide +kernel)
theorem is_12 (hx : RTx T n t) (hk : RTk T n p t) (hp : p ≤ n) : rG 5 [(12 : Int)] t = some (some (if kd T n p = 303 then 1 else 0, t)) := is_w hx hk hp (q := 12) (L := 4) (i := 3) (by decide +kernel) (by decide) (by decide) (by decide) (by decide +kernel) (by decide +kernel)
theorem is_14 (hx : RTx T n t) (hk : RTk T n p t) (hp : p ≤ n) : rG 5 [(14 : Int)] t = some (some (if kd T n p = 304 then 1 else 0, t)) := is_w hx hk hp (q := 14) (L := 2) (i := 4) (by decide +kernel) (by decide) (by decide) (by decide) (by decide +kernel) (by decide +kernel)
theorem is_16 (hx : RTx T n t) (hk : RTk T n p t) (hp : p ≤ n) : rG 5 [(16 : Int)] t = some (some (if kd T n p = 305 then 1 else 0, t)) := is_w hx hk hp (q := 16) (L := 3) (i := 5) (by decide +kernel) (by decide) (by decide) (by decide) (by decide +kernel) (by decide +kernel)
theorem is_18 (hx : RTx T n t) (hk : RTk T n p t) (hp : p ≤ n) : rG 5 [(18 : Int)] t = some (some (if kd T n p = 306 then 1 else 0, t)) := is_w hx hk hp (q := 18) (L := 4) (i := 6) (by decide +kernel) (by decide) (by decide) (by decide) (by decide +kernel) (by decide +kernel)
theorem is_20 (hx : RTx T n t) (hk : RTk T n p t) (hp : p ≤ n) : rG 5 [(20 : Int)] t = some (some (if kd T n p = 307 then 1 else 0, t)) := is_w hx hk hp (q := 20) (L := 3) (i := 7) (by decide +kernel) (by decide) (by decide) (by decide) (by decide +kernel) (by decide +kernel)
theorem is_22 (hx : RTx T n t) (hk : RTk T n p t) (hp : p ≤ n) : rG 5 [(22 : Int)] t = some (some (if kd T n p = 40 then 1 else 0, t)) := is_s1 hx hk hp (q := 22) (by decide +kernel) (by decide +kernel) (by decide +kernel)
theorem is_24 (hx : RTx T n t) (hk : RTk T n p t) (hp : p ≤ n) : rG 5 [(24 : Int)] t = some (some (if kd T n p = 41 then 1 else 0, t)) := is_s1 hx hk hp (q := 24) (by decide +kernel) (by decide +kernel) (by decide +kernel)
theorem is_26 (hx : RTx T n t) (hk : RTk T n p t) (hp : p ≤ n) : rG 5 [(26 : Int)] t = some (some (if kd T n p = 44 then 1 else 0, t)) := is_s1 hx hk hp (q := 26) (by decide +kernel) (by decide +kernel) (by decide +kernel)
theorem is_28 (hx : RTx T n t) (hk : RTk T n p t) (hp : p ≤ n) : rG 5 [(28 : Int)] t = some (some (if kd T n p = 123 then 1 else 0, t)) := is_s1 hx hk hp (q := 28) (by decide +kernel) (by decide +kernel) (by decide +kernel)
theorem is_30 (hx : RTx T n t) (hk : RTk T n p t) (hp : p ≤ n) : rG 5 [(30 : Int)] t = some (some (if kd T n p = 59 then 1 else 0, t)) := is_s1 hx hk hp (q := 30) (by decide +kernel) (by decide +kernel) (by decide +kernel)
theorem is_32 (hx : RTx T n t) (hk : RTk T n p t) (hp : p ≤ n) : rG 5 [(32 : Int)] t = some (some (if kd T n p = 125 then 1 else 0, t)) := is_s1 hx hk hp (q := 32) (by decide +kernel) (by decide +kernel) (by decide +kernel)
theorem is_34 (hx : RTx T n t) (hk : RTk T n p t) (hp : p ≤ n) : rG 5 [(34 : Int)] t = some (some (if kd T n p = 314 then 1 else 0, t)) := is_w hx hk hp (q := 34) (L := 4) (i := 14) (by decide +kernel) (by decide) (by decide) (by decide) (by decide +kernel) (by decide +kernel)
theorem is_36 (hx : RTx T n t) (hk : RTk T n p t) (hp : p ≤ n) : rG 5 [(36 : Int)] t = some (some (if kd T n p = 308 then 1 else 0, t)) := is_w hx hk hp (q := 36) (L := 2) (i := 8) (by decide +kernel) (by decide) (by decide) (by decide) (by decide +kernel) (by decide +kernel)
theorem is_38 (hx : RTx T n t) (hk : RTk T n p t) (hp : p ≤ n) : rG 5 [(38 : Int)] t = some (some (if kd T n p = 45 then 1 else 0, t)) := is_s1 hx hk hp (q := 38) (by decide +kernel) (by decide +kernel) (by decide +kernel)
theorem is_40 (hx : RTx T n t) (hk : RTk T n p t) (hp : p ≤ n) : rG 5 [(40 : Int)] t = some (some (if kd T n p = 126 then 1 else 0, t)) := is_s1 hx hk hp (q := 40) (by decide +kernel) (by decide +kernel) (by decide +kernel)
theorem is_42 (hx : RTx T n t) (hk : RTk T n p t) (hp : p ≤ n) : rG 5 [(42 : Int)] t = some (some (if kd T n p = 33 then 1 else 0, t)) := is_s1 hx hk hp (q := 42) (by decide +kernel) (by decide +kernel) (by decide +kernel)
theorem is_44 (hx : RTx T n t) (hk : RTk T n p t) (hp : p ≤ n) : rG 5 [(44 : Int)] t = some (some (if kd T n p = 93 then 1 else 0, t)) := is_s1 hx hk hp (q := 44) (by decide +kernel) (by decide +kernel) (by decide +kernel)
theorem is_46 (hx : RTx T n t) (hk : RTk T n p t) (hp : p ≤ n) : rG 5 [(46 : Int)] t = some (some (if kd T n p = 31868 then 1 else 0, t)) := is_s2 hx hk hp (q := 46) (c := 124) (d := 124) (by decide +kernel) (by decide +kernel) (by decide +kernel) (by decide +kernel)
theorem is_48 (hx : RTx T n t) (hk : RTk T n p t) (hp : p ≤ n) : rG 5 [(48 : Int)] t = some (some (if kd T n p = 9766 then 1 else 0, t)) := is_s2 hx hk hp (q := 48) (c := 38) (d := 38) (by decide +kernel) (by decide +kernel) (by decide +kernel) (by decide +kernel)
theorem is_50 (hx : RTx T n t) (hk : RTk T n p t) (hp : p ≤ n) : rG 5 [(50 : Int)] t = some (some (if kd T n p = 124 then 1 else 0, t)) := is_s1 hx hk hp (q := 50) (by decide +kernel) (by decide +kernel) (by decide +kernel)
theorem is_52 (hx : RTx T n t) (hk : RTk T n p t) (hp : p ≤ n) : rG 5 [(52 : Int)] t = some (some (if kd T n p = 94 then 1 else 0, t)) := is_s1 hx hk hp (q := 52) (by decide +kernel) (by decide +kernel) (by decide +kernel)
theorem is_54 (hx : RTx T n t) (hk : RTk T n p t) (hp : p ≤ n) : rG 5 [(54 : Int)] t = some (some (if kd T n p = 38 then 1 else 0, t)) := is_s1 hx hk hp (q := 54) (by decide +kernel) (by decide +kernel) (by decide +kernel)
theorem is_56 (hx : RTx T n t) (hk : RTk T n p t) (hp : p ≤ n) : rG 5 [(56 : Int)] t = some (some (if kd T n p = 15677 then 1 else 0, t)) := is_s2 hx hk hp (q := 56) (c := 61) (d := 61) (by decide +kernel) (by decide +kernel) (by decide +kernel) (by decide +kernel)
theorem is_58 (hx : RTx T n t) (hk : RTk T n p t) (hp : p ≤ n) : rG 5 [(58 : Int)] t = some (some (if kd T n p = 8509 then 1 else 0, t)) := is_s2 hx hk hp (q := 58) (c := 33) (d := 61) (by decide +kernel) (by decide +kernel) (by decide +kernel) (by decide +kernel)
theorem is_60 (hx : RTx T n t) (hk : RTk T n p t) (hp : p ≤ n) : rG 5 [(60 : Int)] t = some (some (if kd T n p = 60 then 1 else 0, t)) := is_s1 hx hk hp (q := 60) (by decide +kernel) (by decide +kernel) (by decide +kernel)
theorem is_62 (hx : RTx T n t) (hk : RTk T n p t) (hp : p ≤ n) : rG 5 [(62 : Int)] t = some (some (if kd T n p = 15421 then 1 else 0, t)) := is_s2 hx hk hp (q := 62) (c := 60) (d := 61) (by decide +kernel) (by decide +kernel) (by decide +kernel) (by decide +kernel)
theorem is_64 (hx : RTx T n t) (hk : RTk T n p t) (hp : p ≤ n) : rG 5 [(64 : Int)] t = some (some (if kd T n p = 62 then 1 else 0, t)) := is_s1 hx hk hp (q := 64) (by decide +kernel) (by decide +kernel) (by decide +kernel)
theorem is_66 (hx : RTx T n t) (hk : RTk T n p t) (hp : p ≤ n) : rG 5 [(66 : Int)] t = some (some (if kd T n p = 15933 then 1 else 0, t)) := is_s2 hx hk hp (q := 66) (c := 62) (d := 61) (by decide +kernel) (by decide +kernel) (by decide +kernel) (by decide +kernel)
theorem is_68 (hx : RTx T n t) (hk : RTk T n p t) (hp : p ≤ n) : rG 5 [(68 : Int)] t = some (some (if kd T n p = 15420 then 1 else 0, t)) := is_s2 hx hk hp (q := 68) (c := 60) (d := 60) (by decide +kernel) (by decide +kernel) (by decide +kernel) (by decide +kernel)
theorem is_70 (hx : RTx T n t) (hk : RTk T n p t) (hp : p ≤ n) : rG 5 [(70 : Int)] t = some (some (if kd T n p = 15934 then 1 else 0, t)) := is_s2 hx hk hp (q := 70) (c := 62) (d := 62) (by decide +kernel) (by decide +kernel) (by decide +kernel) (by decide +kernel)
theorem is_72 (hx : RTx T n t) (hk : RTk T n p t) (hp : p ≤ n) : rG 5 [(72 : Int)] t = some (some (if kd T n p = 43 then 1 else 0, t)) := is_s1 hx hk hp (q := 72) (by decide +kernel) (by decide +kernel) (by decide +kernel)
theorem is_74 (hx : RTx T n t) (hk : RTk T n p t) (hp : p ≤ n) : rG 5 [(74 : Int)] t = some (some (if kd T n p = 42 then 1 else 0, t)) := is_s1 hx hk hp (q := 74) (by decide +kernel) (by decide +kernel) (by decide +kernel)
theorem is_76 (hx : RTx T n t) (hk : RTk T n p t) (hp : p ≤ n) : rG 5 [(76 : Int)] t = some (some (if kd T n p = 47 then 1 else 0, t)) := is_s1 hx hk hp (q := 76) (by decide +kernel) (by decide +kernel) (by decide +kernel)
theorem is_78 (hx : RTx T n t) (hk : RTk T n p t) (hp : p ≤ n) : rG 5 [(78 : Int)] t = some (some (if kd T n p = 37 then 1 else 0, t)) := is_s1 hx hk hp (q := 78) (by decide +kernel) (by decide +kernel) (by decide +kernel)
theorem is_80 (hx : RTx T n t) (hk : RTk T n p t) (hp : p ≤ n) : rG 5 [(80 : Int)] t = some (some (if kd T n p = 309 then 1 else 0, t)) := is_w hx hk hp (q := 80) (L := 4) (i := 9) (by decide +kernel) (by decide) (by decide) (by decide) (by decide +kernel) (by decide +kernel)
theorem is_82 (hx : RTx T n t) (hk : RTk T n p t) (hp : p ≤ n) : rG 5 [(82 : Int)] t = some (some (if kd T n p = 310 then 1 else 0, t)) := is_w hx hk hp (q := 82) (L := 5) (i := 10) (by decide +kernel) (by decide) (by decide) (by decide) (by decide +kernel) (by decide +kernel)
theorem is_84 (hx : RTx T n t) (hk : RTk T n p t) (hp : p ≤ n) : rG 5 [(84 : Int)] t = some (some (if kd T n p = 311 then 1 else 0, t)) := is_w hx hk hp (q := 84) (L := 6) (i := 11) (by decide +kernel) (by decide) (by decide) (by decide) (by decide +kernel) (by decide +kernel)
theorem is_86 (hx : RTx T n t) (hk : RTk T n p t) (hp : p ≤ n) : rG 5 [(86 : Int)] t = some (some (if kd T n p = 312 then 1 else 0, t)) := is_w hx hk hp (q := 86) (L := 3) (i := 12) (by decide +kernel) (by decide) (by decide) (by decide) (by decide +kernel) (by decide +kernel)
theorem is_88 (hx : RTx T n t) (hk : RTk T n p t) (hp : p ≤ n) : rG 5 [(88 : Int)] t = some (some (if kd T n p = 61 then 1 else 0, t)) := is_s1 hx hk hp (q := 88) (by decide +kernel) (by decide +kernel) (by decide +kernel)
theorem is_90 (hx : RTx T n t) (hk : RTk T n p t) (hp : p ≤ n) : rG 5 [(90 : Int)] t = some (some (if kd T n p = 313 then 1 else 0, t)) := is_w hx hk hp (q := 90) (L := 6) (i := 13) (by decide +kernel) (by decide) (by decide) (by decide) (by decide +kernel) (by decide +kernel)
theorem is_92 (hx : RTx T n t) (hk : RTk T n p t) (hp : p ≤ n) : rG 5 [(92 : Int)] t = some (some (if kd T n p = 58 then 1 else 0, t)) := is_s1 hx hk hp (q := 92) (by decide +kernel) (by decide +kernel) (by decide +kernel)
theorem is_94 (hx : RTx T n t) (hk : RTk T n p t) (hp : p ≤ n) : rG 5 [(94 : Int)] t = some (some (if kd T n p = 91 then 1 else 0, t)) := is_s1 hx hk hp (q := 94) (by decide +kernel) (by decide +kernel) (by decide +kernel)
end RIS
