/-! Names and the tape, as our own look reads them. -/
theorem v_atb {t : tab} {x : Int} : wG 36 [x] t = some (some (atb t x, t)) := by
  rw [wG_26]
  unfold wM26 atb
  repeat' split
  all_goals first | rfl | omega
theorem v_ltz {t : tab} {x : Int} : wG 33 [x] t = some (some (ltz x, t)) := by
  rw [wG_27]
  unfold wM27 ltz
  repeat' split
  all_goals first | rfl | omega
theorem v_dgz {t : tab} {x : Int} : wG 34 [x] t = some (some (dgz x, t)) := by
  rw [wG_30]
  unfold wM30 dgz
  repeat' split
  all_goals first | rfl | omega
theorem v_nkd {t : tab} {x : Int} : wG 39 [x] t = some (some (nkd t x, t)) := by
  rw [wG_62]
  unfold wM62 nkd
  repeat' split
  all_goals first | rfl | omega
theorem v_nnm {t : tab} {x : Int} : wG 40 [x] t = some (some (nnm t x, t)) := by
  rw [wG_63]
  unfold wM63 nnm
  repeat' split
  all_goals first | rfl | omega
theorem v_alz {t : tab} {x : Int} : wG 35 [x] t = some (some (alz x, t)) := by
  rw [wG_29]
  unfold wM29 alz ltz dgz
  repeat' split
  all_goals first | rfl | omega
theorem v_fdn_l {t : tab} {w : Int} : ∀ (d i : Nat) (f0 : Nat) (y : Int), (t 105 3).toNat - i = d → f0 ≤ i → y = (if (f0 : Int) ≤ fdl t w i then fdl t w i else -1) → (i ≤ (t 105 3).toNat) → wG 56 [w, y, (i : Int)] t = some (some (if (f0 : Int) ≤ fdl t w (t 105 3).toNat then fdl t w (t 105 3).toNat else -1, t)) := by
  intro d
  induction d with
  | zero =>
    intro i f0 y hd hf hy hi
    rw [wG_39_10]
    unfold wM39_10
    rw [if_pos (by omega), hy, show i = (t 105 3).toNat by omega]
  | succ d ih =>
    intro i f0 y hd hf hy hi
    rw [wG_39_10]
    unfold wM39_10
    rw [if_neg (by omega)]
    have e0 : fdl t w (i + 1) = (if t 106 i = w then (i : Int) else fdl t w i) := rfl
    have e1 : ((i : Int)).toNat = i := Int.toNat_natCast i
    rw [e1]
    by_cases e : t 106 i = w
    · rw [if_neg (fun h => h e), show ((i : Int) + 1) = ((i + 1 : Nat) : Int) from rfl]
      refine ih (i + 1) f0 _ (by omega) (by omega) ?_ (by omega)
      rw [e0, if_pos e, if_pos (by omega)]
    · rw [if_pos e, show ((i : Int) + 1) = ((i + 1 : Nat) : Int) from rfl]
      refine ih (i + 1) f0 _ (by omega) (by omega) ?_ (by omega)
      rw [e0, if_neg e]
      exact hy
theorem v_fdn {t : tab} {w f : Int} : wG 38 [w, f] t = some (some (fdn t w f, t)) := by
  rw [wG_39]
  unfold wM39
  obtain ⟨i, hi⟩ : ∃ i : Nat, mxx f 0 = (i : Int) := ⟨(mxx f 0).toNat, by unfold mxx; split <;> omega⟩
  unfold fdn
  rw [hi]
  have hl := fdl_lt (t := t) (w := w) (t 105 3).toNat
  by_cases h : i ≤ (t 105 3).toNat
  · refine v_fdn_l _ i i _ rfl (Nat.le_refl _) ?_ h
    have := fdl_lt (t := t) (w := w) i
    rw [if_neg (by omega)]
  · rw [wG_39_10]
    unfold wM39_10
    rw [if_pos (by omega), if_neg (by omega)]
theorem v_wdl {t : tab} : ∀ (d : Nat) (y i : Int), i + (d : Int) = 9 → i ≤ 8 → wG 55 [y, i] t = some (some (wdl t d y i, t))
  | 0, y, i, h, h8 => by omega
  | d + 1, y, i, h, h8 => by
    rw [wG_114_4]
    unfold wM114_4
    show _ = some (some ((if t 97 1 ≤ i then y else if i = 8 then 0 else if alz (atb t i) ≠ 0 then wdl t d (lo (lsl y 8) (atb t i)) (i + 1) else 0), t))
    by_cases a : t 97 1 ≤ i
    · rw [if_pos a, if_pos a]
    · rw [if_neg a, if_neg a]
      by_cases b : i = 8
      · rw [if_pos b, if_pos b]
      · rw [if_neg b, if_neg b]
        by_cases c : alz (atb t i) ≠ 0
        · rw [if_pos c, if_pos c]
          exact v_wdl d _ _ (by omega) (by omega)
        · rw [if_neg c, if_neg c]
theorem v_wdz {t : tab} : wG 37 [] t = some (some (wdz t, t)) := by
  rw [wG_114]
  unfold wM114 wdz
  exact v_wdl 9 0 0 (by omega) (by omega)
