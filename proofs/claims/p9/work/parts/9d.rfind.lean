/-! Levels, what stands behind, names. -/
section RIS2
variable {T : Nat → Int} {n p : Nat} {t : tab}
set_option maxHeartbeats 4000000 in
theorem r_level (hx : RTx T n t) (hk : RTk T n p t) (hp : p ≤ n) : rG 20 [] t = some (some (lvl (kd T n p) - 1, t)) := by
  rw [rG_151]
  unfold rM151
  rw [is_46 hx hk hp, bo_s]
  by_cases h46 : kd T n p = 31868
  · rw [if_neg (by rw [if_pos h46]; decide), h46]
    rfl
  rw [if_pos (by rw [if_neg h46])]
  rw [is_48 hx hk hp, bo_s]
  by_cases h48 : kd T n p = 9766
  · rw [if_neg (by rw [if_pos h48]; decide), h48]
    rfl
  rw [if_pos (by rw [if_neg h48])]
  rw [is_50 hx hk hp, bo_s]
  by_cases h50 : kd T n p = 124
  · rw [if_neg (by rw [if_pos h50]; decide), h50]
    rfl
  rw [if_pos (by rw [if_neg h50])]
  rw [is_52 hx hk hp, bo_s]
  by_cases h52 : kd T n p = 94
  · rw [if_neg (by rw [if_pos h52]; decide), h52]
    rfl
  rw [if_pos (by rw [if_neg h52])]
  rw [is_54 hx hk hp, bo_s]
  by_cases h54 : kd T n p = 38
  · rw [if_neg (by rw [if_pos h54]; decide), h54]
    rfl
  rw [if_pos (by rw [if_neg h54])]
  rw [is_56 hx hk hp, bo_s]
  by_cases h56 : kd T n p = 15677
  · rw [if_pos (by rw [if_pos h56]; decide), h56]
    rfl
  rw [if_neg (by rw [if_neg h56]; decide)]
  rw [is_58 hx hk hp, bo_s]
  by_cases h58 : kd T n p = 8509
  · rw [if_neg (by rw [if_pos h58]; decide), h58]
    rfl
  rw [if_pos (by rw [if_neg h58])]
  rw [is_60 hx hk hp, bo_s]
  by_cases h60 : kd T n p = 60
  · rw [if_pos (by rw [if_pos h60]; decide), h60]
    rfl
  rw [if_neg (by rw [if_neg h60]; decide)]
  rw [is_62 hx hk hp, bo_s]
  by_cases h62 : kd T n p = 15421
  · rw [if_pos (by rw [if_pos h62]; decide), h62]
    rfl
  rw [if_neg (by rw [if_neg h62]; decide)]
  rw [is_64 hx hk hp, bo_s]
  by_cases h64 : kd T n p = 62
  · rw [if_pos (by rw [if_pos h64]; decide), h64]
    rfl
  rw [if_neg (by rw [if_neg h64]; decide)]
  rw [is_66 hx hk hp, bo_s]
  by_cases h66 : kd T n p = 15933
  · rw [if_neg (by rw [if_pos h66]; decide), h66]
    rfl
  rw [if_pos (by rw [if_neg h66])]
  rw [is_68 hx hk hp, bo_s]
  by_cases h68 : kd T n p = 15420
  · rw [if_pos (by rw [if_pos h68]; decide), h68]
    rfl
  rw [if_neg (by rw [if_neg h68]; decide)]
  rw [is_70 hx hk hp, bo_s]
  by_cases h70 : kd T n p = 15934
  · rw [if_neg (by rw [if_pos h70]; decide), h70]
    rfl
  rw [if_pos (by rw [if_neg h70])]
  rw [is_72 hx hk hp, bo_s]
  by_cases h72 : kd T n p = 43
  · rw [if_pos (by rw [if_pos h72]; decide), h72]
    rfl
  rw [if_neg (by rw [if_neg h72]; decide)]
  rw [is_38 hx hk hp, bo_s]
  by_cases h38 : kd T n p = 45
  · rw [if_neg (by rw [if_pos h38]; decide), h38]
    rfl
  rw [if_pos (by rw [if_neg h38])]
  rw [is_74 hx hk hp, bo_s]
  by_cases h74 : kd T n p = 42
  · rw [if_pos (by rw [if_pos h74]; decide), h74]
    rfl
  rw [if_neg (by rw [if_neg h74]; decide)]
  rw [is_76 hx hk hp, bo_s]
  by_cases h76 : kd T n p = 47
  · rw [if_pos (by rw [if_pos h76]; decide), h76]
    rfl
  rw [if_neg (by rw [if_neg h76]; decide)]
  rw [is_78 hx hk hp, bo_s]
  by_cases h78 : kd T n p = 37
  · rw [if_neg (by rw [if_pos h78]; decide), h78]
    rfl
  rw [if_pos (by rw [if_neg h78])]
  unfold lvl
  iterate 10 rw [if_neg (by omega)]
  rfl
/-- the token behind the one at hand is the sign c -/
theorem r_behind (hx : RTx T n t) (hk : RTk T n p t) (hp : p ≤ n) {c : Int} (hc : c = 61 ∨ c = 91 ∨ c = 40 ∨ c = 33 ∨ c = 63) : rG 19 [c] t = some (some (if kd T n (nxt T n p) = c then 1 else 0, t)) := by
  have h1 := hx.1
  have h2 := hx.2.1
  have hle := nx_le (T := T) hp
  have loop : ∀ (d q : Nat), n - q = d → q ≤ n → rG 51 [c, (q : Int)] t = rG 51 [c, ((upto blk T n q : Nat) : Int)] t := by
    intro d
    induction d with
    | zero => intro q hd hq; rw [upto_no (by omega)]
    | succ d ih =>
      intro q hd hq
      by_cases hb : blk (T q) = true
      · rw [upto_yes (by omega) hb, ← ih (q + 1) (by omega) (by omega)]
        conv => lhs; rw [rG_148_5]
        unfold rM148_5
        have hb2 := blk_iff.mp hb
        rw [if_neg (by omega), Int.toNat_natCast, (hx.2.2 q (by omega)).1]
        rcases hb2 with hb2 | hb2
        · rw [if_pos hb2]
          rfl
        · rw [if_neg (by omega), if_neg (by omega)]
          rfl
      · rw [upto_no (fun e => hb e.2)]
  rw [rG_148]
  unfold rM148
  rw [hk.2.1, loop _ _ rfl hle]
  show rG 51 [c, ((nxt T n p : Nat) : Int)] t = _
  obtain ⟨r, hr⟩ : ∃ r, r = nxt T n p := ⟨_, rfl⟩
  rw [← hr]
  have hrn : r ≤ n := by rw [hr]; exact upto_le hle
  have hnb : ¬ (r < n ∧ blk (T r) = true) := by rw [hr]; exact upto_end
  have hs1 : sg1 c = true := by rcases hc with rfl | rfl | rfl | rfl | rfl <;> decide
  have hko := kd_one (T := T) (n := n) (p := r) hs1
  rw [rG_148_5]
  unfold rM148_5
  by_cases hre : r < n
  · have hb2 : ¬ (T r = 32 ∨ T r = 10) := fun e => hnb ⟨hre, blk_iff.mpr e⟩
    rw [if_neg (by omega), Int.toNat_natCast, (hx.2.2 r hre).1, if_neg (by omega), if_pos (by omega), if_neg (by omega)]
    by_cases e : T r = c
    · rw [if_pos e]
      have e1 : ipl (r : Int) 1 = ((r + 1 : Nat) : Int) := by rw [ipl_e (by omega)]; omega
      rw [e1, h1]
      by_cases e2 : r + 1 = n
      · rw [if_pos (by omega), if_pos (hko.mpr ⟨hre, e, fun h => ?_⟩)]
        unfold nxc at h
        rw [if_neg (by omega)] at h
        have := sg2_r h
        omega
      · rw [if_neg (by omega), Int.toNat_natCast, (hx.2.2 (r + 1) (by omega)).1]
        have hnx : nxc T n r = T (r + 1) := by unfold nxc; rw [if_pos (by omega)]
        by_cases e3 : T (r + 1) ≠ 61
        · rw [if_pos e3, if_pos (hko.mpr ⟨hre, e, fun h => ?_⟩)]
          rw [hnx] at h
          unfold sg2 at h
          rw [decide_eq_true_eq] at h
          omega
        · rw [if_neg e3]
          by_cases e4 : c = 61
          · rw [if_pos e4, if_neg fun h => (hko.mp h).2.2 ?_]
            rw [hnx]
            unfold sg2
            rw [decide_eq_true_eq]
            omega
          · rw [if_neg e4]
            by_cases e5 : c = 33
            · rw [if_pos e5, if_neg fun h => (hko.mp h).2.2 ?_]
              rw [hnx]
              unfold sg2
              rw [decide_eq_true_eq]
              omega
            · rw [if_neg e5, if_pos (hko.mpr ⟨hre, e, fun h => ?_⟩)]
              rw [hnx] at h
              unfold sg2 at h
              rw [decide_eq_true_eq] at h
              omega
    · rw [if_neg e, if_neg fun h => e (hko.mp h).2.1]
  · rw [if_pos (by omega), if_pos (by omega), if_neg fun h => hre (hko.mp h).1]
/-- the names in its table, by their letters -/
def NMr (T : Nat → Int) (n N : Nat) (w : Nat → Int) (t : tab) : Prop := ∀ j, j < N → ∃ a b : Nat, t 172 j = (a : Int) ∧ t 173 j = (b : Int) ∧ a < b ∧ b ≤ n ∧ (∀ i, a ≤ i → i < b → aln (T i) = true) ∧ w j = wdn T a (b - a)
def fdw (w : Nat → Int) (v : Int) : Nat → Int
  | 0 => -1
  | m + 1 => if w m = v then (m : Int) else fdw w v m
theorem fdw_fdl {s : tab} {v : Int} : ∀ m, fdw (fun j => s 106 j) v m = fdl s v m
  | 0 => rfl
  | m + 1 => by
    show (if s 106 m = v then (m : Int) else fdw (fun j => s 106 j) v m) = (if s 106 m = v then (m : Int) else fdl s v m)
    rw [fdw_fdl m]
theorem rf_0 {k i : Nat} {L : Nat} (hL : imi (t 170 6) (t 170 5) = (L : Int)) : rG 50 [(k : Int), 0, (i : Int)] t = rG 49 [ipl (k : Int) (-1)] t := by
  rw [rG_134_44]
  unfold rM134_44
  split <;> rw [if_pos rfl]
theorem rf_1 (hx : RTx T n t) (h5 : t 170 5 = (p : Int)) {k a L : Nat} (hL : imi (t 170 6) (t 170 5) = (L : Int)) (ha : t 172 k = (a : Int)) (haL : a + L ≤ n) (hpL : p + L ≤ n) : ∀ (d i : Nat), L - i = d → i ≤ L → ((∀ j, i ≤ j → j < L → T (a + j) = T (p + j)) → rG 50 [(k : Int), 1, (i : Int)] t = some (some ((k : Int), t))) ∧ ((∃ j, i ≤ j ∧ j < L ∧ T (a + j) ≠ T (p + j)) → rG 50 [(k : Int), 1, (i : Int)] t = rG 49 [ipl (k : Int) (-1)] t) := by
  have h2 := hx.2.1
  intro d
  induction d with
  | zero =>
    intro i hd hi
    refine ⟨fun _ => ?_, fun ⟨j, j1, j2, _⟩ => absurd j1 (by omega)⟩
    rw [rG_134_44]
    unfold rM134_44
    rw [hL, if_pos (by omega), if_neg (by decide)]
  | succ d ih =>
    intro i hd hi
    have e1 : t 171 ((ipl (t 172 ((k : Int)).toNat) (i : Int)).toNat) = T (a + i) := by
      rw [Int.toNat_natCast, ha, ipl_e (by omega), show (a : Int) + (i : Int) = ((a + i : Nat) : Int) by omega, Int.toNat_natCast]
      exact (hx.2.2 (a + i) (by omega)).1
    have e2 : t 171 ((ipl (t 170 5) (i : Int)).toNat) = T (p + i) := by
      rw [h5, ipl_e (by omega), show (p : Int) + (i : Int) = ((p + i : Nat) : Int) by omega, Int.toNat_natCast]
      exact (hx.2.2 (p + i) (by omega)).1
    have ih2 := ih (i + 1) (by omega) (by omega)
    by_cases e : T (a + i) = T (p + i)
    · have hs : rG 50 [(k : Int), 1, (i : Int)] t = rG 50 [(k : Int), 1, ((i + 1 : Nat) : Int)] t := by
        conv => lhs; rw [rG_134_44]
        unfold rM134_44
        rw [hL, if_neg (by omega), if_neg (by decide), e1, e2, if_neg (fun q => q e)]
        rfl
      rw [hs]
      refine ⟨fun h => ih2.1 fun j b c => h j (by omega) c, fun ⟨j, j1, j2, j3⟩ => ih2.2 ⟨j, ?_, j2, j3⟩⟩
      rcases Nat.lt_or_ge i j with h | h
      · exact h
      · exact absurd e (by rw [show i = j by omega]; exact j3)
    · refine ⟨fun h => absurd (h i (Nat.le_refl _) (by omega)) e, fun _ => ?_⟩
      rw [rG_134_44]
      unfold rM134_44
      rw [hL, if_neg (by omega), if_neg (by decide), e1, e2, if_pos e]
      exact rf_0 (i := i + 1) hL
end RIS2
