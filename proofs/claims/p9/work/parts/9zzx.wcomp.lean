/-! What a part does at its turn, kind by kind. -/
section WCOMP
variable {s : tab} {p : Nat}
theorem W_e (hk : s 100 p = 2 ∨ s 100 p = 400 ∨ s 100 p = 401 ∨ s 100 p = 402 ∨ s 100 p = 403) : Wrx s p = cax ([(144, p, trn s p + 1)], []) (ewx s p (trn s p)) := by
  unfold Wrx
  rw [if_neg (fun q => by have := q.1; omega), if_pos hk]
theorem W_c (hk : s 100 p = 404) : Wrx s p = cax ([(144, p, trn s p + 1)], []) (cwx s p (trn s p)) := by
  unfold Wrx
  rw [if_neg (fun q => by have := q.1; omega), if_neg (by omega), if_pos hk]
theorem W_m (hk : s 100 p = 405 ∨ s 100 p = 406 ∨ s 100 p = 407) (hf : s 100 p = 407 → s 147 p = 0) : Wrx s p = cax ([(144, p, trn s p + 1)], []) (mwx s p (trn s p)) := by
  unfold Wrx
  rw [if_neg (fun q => q.2 (hf q.1)), if_neg (by omega), if_neg (by omega), if_pos hk]
theorem W_g (hk : s 100 p = 308 ∨ s 100 p = 310 ∨ s 100 p = 311 ∨ s 100 p = 312 ∨ s 100 p = 314 ∨ s 100 p = 408) : Wrx s p = cax ([(144, p, trn s p + 1)], []) (gwx s p (trn s p)) := by
  unfold Wrx
  rw [if_neg (fun q => by have := q.1; omega), if_neg (by omega), if_neg (by omega), if_neg (by omega)]
theorem W_f (hf : FGx s p) : Wrx s p = cax ((144, p, s 144 p) :: ((147, p, 0) :: asx s (s 102 p) (vax s (s 103 p)) (s 145 p)), []) (twx s p 0) := by
  unfold Wrx
  rw [if_pos hf]
  rfl
theorem c_t {x : wrl × List Int} : cax ([(144, p, trn s p + 1)], []) x = cax ((144, p, trn s p + 1) :: [], []) x := rfl
theorem w_2 (hk : s 100 p = 2) : Wrx s p = cax ((144, p, trn s p + 1) :: [], []) (twx s p (s 101 p)) := by
  rw [W_e (by omega)]
  unfold ewx
  rw [if_pos hk]
theorem w_400 (hk : s 100 p = 400) : Wrx s p = cax ((144, p, trn s p + 1) :: [], []) (twx s p (vrx s (s 101 p))) := by
  rw [W_e (by omega)]
  unfold ewx
  rw [if_neg (by omega), if_pos hk]
theorem w_1a (hk : s 100 p = 401 ∨ s 100 p = 402) (h0 : trn s p = 0) : Wrx s p = cax ((144, p, trn s p + 1) :: [], []) (awx s (s 102 p) p) := by
  rw [W_e (by omega)]
  unfold ewx
  rw [if_neg (by omega), if_neg (by omega), if_neg (by omega), if_pos h0]
theorem w_401 (hk : s 100 p = 401) (h0 : trn s p ≠ 0) : Wrx s p = cax ((144, p, trn s p + 1) :: [], []) (twx s p (itx s (s 101 p) (vax s (s 102 p)))) := by
  rw [W_e (by omega)]
  unfold ewx
  rw [if_neg (by omega), if_neg (by omega), if_neg (by omega), if_neg h0, if_pos hk]
theorem w_402 (hk : s 100 p = 402) (h0 : trn s p ≠ 0) : Wrx s p = cax ((144, p, trn s p + 1) :: [], []) (twx s p (s1x (s 101 p) (vax s (s 102 p)))) := by
  rw [W_e (by omega)]
  unfold ewx
  rw [if_neg (by omega), if_neg (by omega), if_neg (by omega), if_neg h0, if_neg (by omega)]
theorem w_403a (hk : s 100 p = 403) (h0 : trn s p = 0) : Wrx s p = cax ((144, p, trn s p + 1) :: [], []) (awx s (s 102 p) p) := by
  rw [W_e (by omega)]
  unfold ewx
  rw [if_neg (by omega), if_neg (by omega), if_pos hk, if_pos (by omega), if_pos h0]
theorem w_403b (hk : s 100 p = 403) (h0 : trn s p = 1) : Wrx s p = cax ((144, p, trn s p + 1) :: [], []) (awx s (s 103 p) p) := by
  rw [W_e (by omega)]
  unfold ewx
  rw [if_neg (by omega), if_neg (by omega), if_pos hk, if_pos (by omega), if_neg (by omega)]
theorem w_403c (hk : s 100 p = 403) (h0 : trn s p = 2) : Wrx s p = cax ((144, p, trn s p + 1) :: [], []) (twx s p (s2x (s 101 p) (vax s (s 102 p)) (vax s (s 103 p)))) := by
  rw [W_e (by omega)]
  unfold ewx
  rw [if_neg (by omega), if_neg (by omega), if_pos hk, if_neg (by omega)]
theorem w_404a (hk : s 100 p = 404) {x : Int} (hx : x = if trn s p = 0 then s 102 p else flx s (s 146 p)) (h0 : trn s p < s 103 p) : Wrx s p = cax ((144, p, trn s p + 1) :: [(146, p, x)], []) (awx s x p) := by
  rw [W_c hk]
  unfold cwx
  rw [if_pos h0, ← hx, shp]
theorem w_404b (hk : s 100 p = 404) (h0 : trn s p = s 103 p) : Wrx s p = cax ((144, p, trn s p + 1) :: (pwx s (fpx s (s 101 p)) (s 103 p).toNat 0 (s 102 p) ++ [(146, p, bdx s (s 101 p))]), []) (awx s (bdx s (s 101 p)) p) := by
  rw [W_c hk]
  unfold cwx
  rw [if_neg (by omega), if_pos h0, shp]
theorem w_404c (hk : s 100 p = 404) (h0 : s 103 p < trn s p) : Wrx s p = cax ((144, p, trn s p + 1) :: [(146, p, flx s (s 146 p))], []) (otx s (flx s (s 146 p)) p (vax s (s 146 p))) := by
  rw [W_c hk]
  unfold cwx
  rw [if_neg (by omega), if_neg (by omega), shp]
/-- SET: its subscript, its E, the value -/
theorem w_405a (hk : s 100 p = 405) (h0 : trn s p = 0) (h3 : 0 ≤ s 103 p) : Wrx s p = cax ((144, p, trn s p + 1) :: [], []) (awx s (s 103 p) p) := by
  rw [W_m (by omega) (by omega)]
  unfold mwx
  rw [if_neg (by omega), if_pos (by unfold sgu; rw [if_neg (by omega)]; exact h0)]
theorem w_405b (hk : s 100 p = 405) (h0 : sgu s p (trn s p) = 1) : Wrx s p = cax ((144, p, trn s p + 1) :: [], []) (awx s (s 102 p) p) := by
  rw [W_m (by omega) (by omega)]
  unfold mwx
  rw [if_neg (by omega), if_neg (by omega), if_neg (by omega), if_pos h0]
theorem w_405c (hk : s 100 p = 405) (h0 : sgu s p (trn s p) = 2) : Wrx s p = cax ((144, p, trn s p + 1) :: asx s (s 101 p) (vax s (s 103 p)) (vax s (s 102 p)), []) (twx s p 0) := by
  rw [W_m (by omega) (by omega)]
  unfold mwx
  rw [if_neg (by omega), if_neg (by omega), if_neg (by omega), if_neg (by omega), shp]
theorem w_406a (hk : s 100 p = 406) (h0 : trn s p = 0) : Wrx s p = cax ((144, p, trn s p + 1) :: [], []) (awx s (s 102 p) p) := by
  rw [W_m (by omega) (by omega)]
  unfold mwx
  rw [if_pos hk, if_pos h0]
theorem w_406b (hk : s 100 p = 406) (h0 : trn s p ≠ 0) : Wrx s p = cax ([(144, p, trn s p + 1)], []) (swx s p (s 101 p) (vax s (s 102 p))) := by
  rw [W_m (by omega) (by omega)]
  unfold mwx
  rw [if_pos hk, if_neg h0]
theorem w_407a (hk : s 100 p = 407) (h7 : s 147 p = 0) (h0 : trn s p = 0) (h3 : 0 ≤ s 103 p) : Wrx s p = cax ((144, p, trn s p + 1) :: [], []) (awx s (s 103 p) p) := by
  rw [W_m (by omega) (fun _ => h7)]
  unfold mwx
  rw [if_neg (by omega), if_pos (by unfold sgu; rw [if_neg (by omega)]; exact h0)]
theorem w_407b (hk : s 100 p = 407) (h7 : s 147 p = 0) (h0 : sgu s p (trn s p) ≠ 0) : Wrx s p = cax ([(144, p, trn s p + 1)], []) (rwx s p (s 101 p)) := by
  rw [W_m (by omega) (fun _ => h7)]
  unfold mwx
  rw [if_neg (by omega), if_neg h0, if_pos hk]
/-- IF, WHILE, REPEAT, BLOCK, PAR, skip -/
theorem w_308a (hk : s 100 p = 308) (h0 : trn s p = 0) : Wrx s p = cax ((144, p, trn s p + 1) :: [], []) (awx s (s 101 p) p) := by
  rw [W_g (by omega)]
  unfold gwx
  rw [if_pos hk, if_pos h0]
theorem w_308b (hk : s 100 p = 308) (h0 : trn s p = 1) : Wrx s p = cax ((144, p, trn s p + 1) :: [], []) (otx s (if vax s (s 101 p) ≠ 0 then s 102 p else s 103 p) p 0) := by
  rw [W_g (by omega)]
  unfold gwx
  rw [if_pos hk, if_neg (by omega), if_pos h0]
theorem w_308c (hk : s 100 p = 308) (h0 : trn s p = 2) : Wrx s p = cax ((144, p, trn s p + 1) :: [], []) (twx s p 0) := by
  rw [W_g (by omega)]
  unfold gwx
  rw [if_pos hk, if_neg (by omega), if_neg (by omega)]
  unfold otx
  rw [if_neg (by omega)]
theorem w_310a (hk : s 100 p = 310) (h0 : trn s p % 2 = 0) : Wrx s p = cax ((144, p, trn s p + 1) :: [], []) (awx s (s 101 p) p) := by
  rw [W_g (by omega)]
  unfold gwx
  rw [if_neg (by omega), if_pos hk, if_pos h0]
theorem w_310b (hk : s 100 p = 310) (h0 : trn s p % 2 = 1) : Wrx s p = cax ((144, p, trn s p + 1) :: [], []) (otx s (if vax s (s 101 p) ≠ 0 then s 102 p else -1) p 0) := by
  rw [W_g (by omega)]
  unfold gwx
  rw [if_neg (by omega), if_pos hk, if_neg (by omega)]
theorem w_311 (hk : s 100 p = 311) : Wrx s p = cax ((144, p, trn s p + 1) :: [], []) (otx s (if trn s p < s 101 p then s 102 p else -1) p 0) := by
  rw [W_g (by omega)]
  unfold gwx
  rw [if_neg (by omega), if_neg (by omega), if_pos hk]
theorem w_408 (hk : s 100 p = 408) {x : Int} (hx : x = if trn s p = 0 then s 101 p else flx s (s 146 p)) : Wrx s p = cax ((144, p, trn s p + 1) :: [(146, p, x)], []) (otx s x p 0) := by
  rw [W_g (by omega)]
  unfold gwx
  rw [if_neg (by omega), if_neg (by omega), if_neg (by omega), if_pos hk, ← hx, shp]
theorem w_312 (hk : s 100 p = 312) (h0 : trn s p ≠ 0) (h1 : trn s p = s 102 p) : Wrx s p = cax ((144, p, trn s p + 1) :: [], []) (twx s p 0) := by
  rw [W_g (by omega)]
  unfold gwx
  rw [if_neg (by omega), if_neg (by omega), if_neg (by omega), if_neg (by omega), if_pos hk, if_neg h0, if_pos h1]
theorem w_314 (hk : s 100 p = 314) : Wrx s p = cax ((144, p, trn s p + 1) :: [], []) (twx s p 0) := by
  rw [W_g (by omega)]
  unfold gwx
  rw [if_neg (by omega), if_neg (by omega), if_neg (by omega), if_neg (by omega), if_neg (by omega)]
theorem ot_a {y q v : Int} (h : 0 ≤ y) : otx s y q v = awx s y q := if_pos h
theorem ot_t {y q v : Int} (h : y < 0) : otx s y q v = twx s q v := if_neg (by omega)
/-- signs in both -/
theorem tg_s2 {a x y : Int} (h : 0 < lvl a) : tgx (rsg a) x y = s2x a x y := by
  have sh : ∀ z : Int, isl z (ian y 31) = isl z y ∧ isr z (ian y 31) = isr z y := fun z => by
    unfold isl isr ian
    have e : Int32.ofInt (Int32.ofInt y &&& Int32.ofInt 31).toInt &&& 31 = Int32.ofInt y &&& 31 := by
      rw [Int32.ofInt_toInt]
      show Int32.ofInt y &&& Int32.ofInt 31 &&& 31 = _
      rw [Int32.and_assoc]
      rfl
    rw [e]
    exact ⟨rfl, rfl⟩
  have ha : a = 31868 ∨ a = 9766 ∨ a = 124 ∨ a = 94 ∨ a = 38 ∨ a = 15677 ∨ a = 8509 ∨ a = 60 ∨ a = 15421 ∨ a = 62 ∨ a = 15933 ∨ a = 15420 ∨ a = 15934 ∨ a = 43 ∨ a = 45 ∨ a = 42 ∨ a = 47 ∨ a = 37 := by
    unfold lvl at h
    repeat' split at h
    all_goals omega
  rcases ha with rfl | rfl | rfl | rfl | rfl | rfl | rfl | rfl | rfl | rfl | rfl | rfl | rfl | rfl | rfl | rfl | rfl | rfl
  all_goals unfold tgx s2x rsg
  all_goals simp (decide := true) only [if_true, if_false, ite_true, ite_false]
  · exact (sh _).1.symm
  · exact (sh _).2.symm
end WCOMP
