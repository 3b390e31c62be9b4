/-! A turn of our own Work, all kinds. -/
section EXE5
variable {t t1 t2 z : tab} {p b : Nat} {u v x : Int} {Q : Nat → Nat} {act : Nat → Prop} {cx : Nat → Cxx} {anc : Nat → Nat → Prop}
/-- turns that are done at once -/
theorem ex_mv (hz : SZx (zp t)) (hq : QBx t) (hk : t 100 p = 405 ∨ t 100 p = 406 ∨ t 100 p = 407) (h0 : 0 ≤ u ∧ u < 2147483647) (h5 : t 100 p = 405 → 0 ≤ t 101 p ∧ t 101 p < 30) (h6 : t 100 p = 406 ∨ t 100 p = 407 → 0 ≤ t 101 p ∧ t 101 p < 12) (n6 : t 100 p = 406 → u ≠ 0 → ¬ (t 101 p < 8 ∧ 0 ≤ t 153 (t 101 p).toNat)) (n7 : t 100 p = 407 → sgu t p u ≠ 0 → (t 101 p < 8 → t 152 (t 101 p).toNat < 0) ∧ (8 ≤ t 101 p → t (qin (t 101 p)) 2 ≤ 0)) : ∃ t2, wG 26 [(p : Int), u] t = some (some (0, t2)) ∧ EXR t t2 (mwx (zp t) p u) := by
  have es : ipl u 1 = u + 1 := ipl_e (by omega)
  by_cases k6 : t 100 p = 406
  · have hW : mwx (zp t) p u = (if u = 0 then awx (zp t) (t 102 p) p else swx (zp t) p (t 101 p) (vax t (t 102 p))) := if_pos (show zp t 100 p = 406 from k6)
    rw [hW, wG_103]
    unfold wM103
    rw [Int.toNat_natCast]
    by_cases e : u = 0
    · rw [if_pos e]
      refine ⟨akw t (t 102 p) p, ?_, ex_ak⟩
      by_cases e3 : 0 ≤ t 103 p
      · rw [if_pos e3, if_neg (fun q => q k6), if_neg (fun q => q e)]
      · rw [if_neg e3, if_neg (fun q => q k6), if_neg (fun q => q e)]
    · rw [if_neg e]
      obtain ⟨t2, k1, k2⟩ := ex_snd (p := p) (v := vax t (t 102 p)) hq (h6 (.inl k6)) (n6 k6 e)
      refine ⟨t2, ?_, k2⟩
      by_cases e3 : 0 ≤ t 103 p
      · rw [if_pos e3, if_neg (fun q => q k6), if_pos e, k1, bo_s]
      · rw [if_neg e3, if_neg (fun q => q k6), if_pos e, k1, bo_s]
  have hW : mwx (zp t) p u = _ := if_neg (show ¬ zp t 100 p = 406 from k6)
  rw [hW]
  have hS : sgu (zp t) p u = (if 0 ≤ t 103 p then u else u + 1) := by
    show (if t 103 p < 0 then u + 1 else u) = _
    by_cases e : 0 ≤ t 103 p
    · rw [if_pos e, if_neg (by omega)]
    · rw [if_neg e, if_pos (by omega)]
  have hS2 : sgu t p u = sgu (zp t) p u := rfl
  obtain ⟨st, hst⟩ : ∃ st, st = sgu (zp t) p u := ⟨_, rfl⟩
  have hM : wG 26 [(p : Int), u] t = (if st = 0 then some (some (0, akw t (t 103 p) p)) else if t 100 p = 407 then (bo (wG 22 [(p : Int), t 101 p] t) fun _ t3 => some (some (0, t3))) else if st = 1 then some (some (0, akw t (t 102 p) p)) else some (some (0, tlw (asw t (t 101 p) (vax t (t 103 p)) (vax t (t 102 p))) p 0))) := by
    rw [wG_103]
    unfold wM103
    rw [Int.toNat_natCast, es]
    by_cases e : 0 ≤ t 103 p
    · rw [if_pos e] at hS
      rw [if_pos e, if_pos k6, hst, hS]
      by_cases e0 : u = 0
      · rw [if_neg (fun q => q e0), if_pos e0]
      · rw [if_pos e0, if_neg e0]
        by_cases k7 : t 100 p = 407
        · rw [if_neg (fun q => q k7), if_pos k7]
        · rw [if_pos k7, if_neg k7]
          by_cases e1 : u = 1
          · rw [if_neg (fun q => q e1), if_pos e1]
          · rw [if_pos e1, if_neg e1]
    · rw [if_neg e] at hS
      rw [if_neg e, if_pos k6, hst, hS]
      by_cases e0 : u + 1 = 0
      · omega
      · rw [if_pos e0, if_neg e0]
        by_cases k7 : t 100 p = 407
        · rw [if_neg (fun q => q k7), if_pos k7]
        · rw [if_pos k7, if_neg k7]
          by_cases e1 : u + 1 = 1
          · rw [if_neg (fun q => q e1), if_pos e1]
          · rw [if_pos e1, if_neg e1]
  rw [hM, ← hst]
  by_cases e0 : st = 0
  · rw [if_pos e0, if_pos e0]
    exact ⟨_, rfl, ex_ak⟩
  rw [if_neg e0, if_neg e0]
  by_cases k7 : t 100 p = 407
  · rw [if_pos k7, if_pos (show zp t 100 p = 407 from k7)]
    have n7 := n7 k7 (by rw [hS2, ← hst]; exact e0)
    obtain ⟨t2, k1, k2⟩ := ex_rcv (t := t) (p := p) (h6 (.inr k7)) n7.1 n7.2
    refine ⟨t2, ?_, k2⟩
    rw [k1, bo_s]
  rw [if_neg k7, if_neg (show ¬ zp t 100 p = 407 from k7)]
  by_cases e1 : st = 1
  · rw [if_pos e1, if_pos e1]
    exact ⟨_, rfl, ex_ak⟩
  rw [if_neg e1, if_neg e1]
  refine ⟨_, rfl, ?_⟩
  refine EX_app (A := (asx (zp t) (t 101 p) (vax t (t 103 p)) (vax t (t 102 p)), [])) (ex_as hz (h5 (by omega))) ?_
  have := ex_tl (t := asw t (t 101 p) (vax t (t 103 p)) (vax t (t 102 p))) (p := (p : Int)) (v := 0)
  have ew : twx (zp (asw t (t 101 p) (vax t (t 103 p)) (vax t (t 102 p)))) (p : Int) 0 = twx (zp t) (p : Int) 0 := by
    unfold twx
    rw [zp_e (fun k j => as_o) 99 12 (by omega) (by omega), zp_e (fun k j => as_o) 143 _ (by omega) (by omega)]
  rw [ew] at this
  exact this
end EXE5
