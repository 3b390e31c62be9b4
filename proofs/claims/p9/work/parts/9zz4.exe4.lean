/-! What a turn does does not hang on how often parts were turned to. -/
section EXE4
variable {s s2 : tab} {p : Nat} {u v x y : Int}
theorem X_va (h : ∀ k j, k ≠ 144 → s2 k j = s k j) : vax s2 x = vax s x := by
  unfold vax
  rw [h 99 12 (by decide), h 145 _ (by decide)]
theorem X_fl (h : ∀ k j, k ≠ 144 → s2 k j = s k j) : flx s2 x = flx s x := by
  unfold flx
  rw [h 99 12 (by decide), h 104 _ (by decide)]
theorem X_vr (h : ∀ k j, k ≠ 144 → s2 k j = s k j) : vrx s2 x = vrx s x := by
  unfold vrx
  rw [h 148 _ (by decide)]
theorem X_pl (h : ∀ k j, k ≠ 144 → s2 k j = s k j) : plx s2 x y = plx s x y := by
  unfold plx
  rw [h 111 _ (by decide)]
theorem X_it (h : ∀ k j, k ≠ 144 → s2 k j = s k j) : itx s2 x y = itx s x y := by
  unfold itx
  rw [X_pl h, h 149 _ (by decide)]
theorem X_aw (h : ∀ k j, k ≠ 144 → s2 k j = s k j) : awx s2 x y = awx s x y := by
  unfold awx
  rw [h 99 12 (by decide)]
theorem X_tw (h : ∀ k j, k ≠ 144 → s2 k j = s k j) : twx s2 x y = twx s x y := by
  unfold twx
  rw [h 99 12 (by decide), h 143 _ (by decide)]
theorem X_ot (h : ∀ k j, k ≠ 144 → s2 k j = s k j) : otx s2 x y v = otx s x y v := by
  unfold otx
  rw [X_aw h, X_tw h]
theorem X_as (h : ∀ k j, k ≠ 144 → s2 k j = s k j) : asx s2 x y v = asx s x y v := by
  unfold asx
  rw [X_pl h, h 110 _ (by decide)]
theorem X_pw (h : ∀ k j, k ≠ 144 → s2 k j = s k j) {f : Int} : ∀ (n : Nat) (i x : Int), pwx s2 f n i x = pwx s f n i x
  | 0, _, _ => rfl
  | n + 1, i, x => by
    show asx s2 (f + i) 0 (vax s2 x) ++ pwx s2 f n (i + 1) (flx s2 x) = asx s (f + i) 0 (vax s x) ++ pwx s f n (i + 1) (flx s x)
    rw [X_as h, X_va h, X_fl h, X_pw h n]
theorem X_bw (h : ∀ k j, k ≠ 144 → s2 k j = s k j) : ∀ (n : Nat) (x : Int), bwx s2 p n x = bwx s p n x
  | 0, _ => rfl
  | n + 1, x => by
    show cax (awx s2 x p) (bwx s2 p n (flx s2 x)) = cax (awx s x p) (bwx s p n (flx s x))
    rw [X_aw h, X_fl h, X_bw h n]
theorem X_ew (h : ∀ k j, k ≠ 144 → s2 k j = s k j) : ewx s2 p u = ewx s p u := by
  unfold ewx
  simp only [h 100 _ (by decide), h 101 _ (by decide), h 102 _ (by decide), h 103 _ (by decide), X_aw h, X_tw h, X_va h, X_vr h, X_it h]
theorem X_cw (h : ∀ k j, k ≠ 144 → s2 k j = s k j) : cwx s2 p u = cwx s p u := by
  have e1 : ∀ r, fpx s2 r = fpx s r := fun r => by
    unfold fpx
    rw [h 113 _ (by decide)]
  have e2 : ∀ r, bdx s2 r = bdx s r := fun r => by
    unfold bdx
    rw [h 114 _ (by decide)]
  unfold cwx
  simp only [h 100 _ (by decide), h 101 _ (by decide), h 102 _ (by decide), h 103 _ (by decide), h 146 _ (by decide), X_aw h, X_ot h, X_va h, X_fl h, X_pw h, e1, e2]
theorem X_gw (h : ∀ k j, k ≠ 144 → s2 k j = s k j) : gwx s2 p u = gwx s p u := by
  unfold gwx
  simp only [h 100 _ (by decide), h 101 _ (by decide), h 102 _ (by decide), h 103 _ (by decide), h 146 _ (by decide), X_aw h, X_tw h, X_ot h, X_va h, X_fl h, X_bw h]
theorem X_ho (h : ∀ k j, k ≠ 144 → s2 k j = s k j) : hox s2 x y v = hox s x y v := by
  unfold hox
  rw [h 99 12 (by decide), X_tw h]
theorem X_sw (h : ∀ k j, k ≠ 144 → s2 k j = s k j) : swx s2 p x v = swx s p x v := by
  unfold swx
  simp only [h 153 _ (by decide), h (qou x) _ (by unfold qou; omega), X_tw h, X_ho h]
theorem X_rw (h : ∀ k j, k ≠ 144 → s2 k j = s k j) : rwx s2 p x = rwx s p x := by
  unfold rwx
  simp only [h 152 _ (by decide), h (qin x) _ (by unfold qin; omega), h (qin x + 1) _ (by unfold qin; omega), h 102 _ (by decide), X_va h, X_ho h]
theorem X_mw (h : ∀ k j, k ≠ 144 → s2 k j = s k j) : mwx s2 p u = mwx s p u := by
  have e : sgu s2 p u = sgu s p u := by
    unfold sgu
    rw [h 103 _ (by decide)]
  unfold mwx
  simp only [h 100 _ (by decide), h 101 _ (by decide), h 102 _ (by decide), h 103 _ (by decide), X_aw h, X_tw h, X_va h, X_as h, X_sw h, X_rw h, e]
end EXE4
