/-! Queues stay within their rows; the stack's length. -/
section QUEUE
variable {s s2 : tab} {p : Nat} {u v x y : Int}
/-- no queue is written -/
def NQx (ws : wrl) : Prop := ∀ w ∈ ws, w.1 < 154
theorem NQ_nil : NQx [] := fun w hw => by cases hw
theorem NQ_app {a b : wrl} (ha : NQx a) (hb : NQx b) : NQx (a ++ b) := fun w hw => (List.mem_append.mp hw).elim (ha w) (hb w)
theorem NQ_one {k j : Nat} {v : Int} (h : k < 154) : NQx [(k, j, v)] := fun w hw => by
  simp only [List.mem_cons, List.not_mem_nil, or_false] at hw
  rw [hw]
  exact h
theorem NQ_aw : NQx (awx s x y).1 := by
  unfold awx
  split
  · exact NQ_app (a := [_]) (NQ_one (by omega)) (NQ_one (by omega))
  · exact NQ_nil
theorem NQ_tw : NQx (twx s x y).1 := by
  unfold twx
  split
  · refine NQ_app (a := [(145, x.toNat, y)]) (b := if s 143 x.toNat < 0 then [(142, 13, 1)] else []) (NQ_one (by omega)) ?_
    by_cases e : s 143 x.toNat < 0
    · rw [if_pos e]
      exact NQ_one (by omega)
    · rw [if_neg e]
      exact NQ_nil
  · exact NQ_nil
theorem NQ_ot : NQx (otx s x y v).1 := by
  unfold otx
  split
  · exact NQ_aw
  · exact NQ_tw
theorem NQ_as : NQx (asx s x y v) := by
  unfold asx
  split
  · exact NQ_one (by omega)
  · split
    · exact NQ_one (by omega)
    · exact NQ_nil
theorem NQ_pw {f : Int} : ∀ (n : Nat) (i x : Int), NQx (pwx s f n i x)
  | 0, _, _ => NQ_nil
  | n + 1, i, x => NQ_app NQ_as (NQ_pw n (i + 1) (flx s x))
theorem NQ_bw : ∀ (n : Nat) (x : Int), NQx (bwx s p n x).1
  | 0, _ => NQ_nil
  | n + 1, x => NQ_app NQ_aw (NQ_bw n (flx s x))
theorem NQ_ho : NQx (hox s x y v).1 := by
  unfold hox
  split
  · exact NQ_app (NQ_app (a := [_]) (NQ_one (by omega)) (NQ_one (by omega))) NQ_tw
  · exact NQ_nil
theorem NQ_ew : NQx (ewx s p u).1 := by
  unfold ewx
  repeat' split
  all_goals first | exact NQ_tw | exact NQ_aw
theorem NQ_cw : NQx (cwx s p u).1 := by
  unfold cwx
  split
  · exact NQ_app (NQ_one (by omega)) NQ_aw
  · split
    · exact NQ_app (NQ_app (NQ_pw _ _ _) (NQ_one (by omega))) NQ_aw
    · exact NQ_app (NQ_one (by omega)) NQ_ot
theorem NQ_gw : NQx (gwx s p u).1 := by
  unfold gwx
  split
  · split
    · exact NQ_aw
    · exact NQ_ot
  · split
    · split
      · exact NQ_aw
      · exact NQ_ot
    · split
      · exact NQ_ot
      · split
        · exact NQ_app (NQ_one (by omega)) NQ_ot
        · split
          · split
            · exact NQ_bw _ _
            · split
              · exact NQ_tw
              · exact NQ_nil
          · exact NQ_tw
theorem QB_nq {ws : wrl} (h : QBx s) (hn : NQx ws) : QBx (apw ws s) := fun i hi => by
  have o : ∀ k j, 154 ≤ k → apw ws s k j = s k j := fun k j hk => ap_o (fun w hw => by have := hn w hw; omega)
  rw [o (154 + 2 * i) 1 (by omega), o (154 + 2 * i) 2 (by omega), o (162 + 2 * i) 1 (by omega), o (162 + 2 * i) 2 (by omega)]
  exact h i hi
theorem QB_mw (h : QBx s) : QBx (apw (mwx s p u).1 s) := by
  unfold mwx
  by_cases e1 : s 100 p = 406
  · rw [if_pos e1]
    by_cases e2 : u = 0
    · rw [if_pos e2]
      exact QB_nq h NQ_aw
    · rw [if_neg e2]
      unfold swx
      by_cases e3 : s 101 p < 0 ∨ 12 ≤ s 101 p
      · rw [if_pos e3]
        exact h
      rw [if_neg e3]
      by_cases e4 : 8 ≤ s 101 p
      · rw [if_pos e4]
        by_cases e5 : s (qou (s 101 p)) 2 < 40
        · rw [if_pos e5]
          unfold cax
          dsimp only
          rw [apw_app, apw_cons, apw_cons, apw_nil]
          refine QB_nq ?_ NQ_tw
          intro i hi
          have hb := h i hi
          have hq : qou (s 101 p) = 162 + 2 * (s 101 p - 8).toNat := rfl
          rw [hq] at e5 ⊢
          dsimp only
          by_cases e6 : i = (s 101 p - 8).toNat
          · rw [← e6] at e5 ⊢
            have o1 : ∀ j (z w : Int), up2 (up2 s (162 + 2 * i + 1) ((s (162 + 2 * i) 1 + s (162 + 2 * i) 2) % 40).toNat z) (162 + 2 * i) 2 w (154 + 2 * i) j = s (154 + 2 * i) j := fun j z w => (if_neg (by omega)).trans (if_neg (by omega))
            have o2 : ∀ (z w : Int), up2 (up2 s (162 + 2 * i + 1) ((s (162 + 2 * i) 1 + s (162 + 2 * i) 2) % 40).toNat z) (162 + 2 * i) 2 w (162 + 2 * i) 1 = s (162 + 2 * i) 1 := fun z w => (if_neg (by omega)).trans (if_neg (by omega))
            rw [o1, o1, o2, up_self]
            omega
          · have o1 : ∀ k j (z w : Int), k = 154 + 2 * i ∨ k = 162 + 2 * i → up2 (up2 s (162 + 2 * (s 101 p - 8).toNat + 1) ((s (162 + 2 * (s 101 p - 8).toNat) 1 + s (162 + 2 * (s 101 p - 8).toNat) 2) % 40).toNat z) (162 + 2 * (s 101 p - 8).toNat) 2 w k j = s k j := fun k j z w hk => (if_neg (by omega)).trans (if_neg (by omega))
            rw [o1 _ _ _ _ (.inl rfl), o1 _ _ _ _ (.inl rfl), o1 _ _ _ _ (.inr rfl), o1 _ _ _ _ (.inr rfl)]
            exact hb
        · rw [if_neg e5]
          exact QB_nq h (NQ_one (by omega))
      · rw [if_neg e4]
        split
        · exact QB_nq h (NQ_app NQ_ho (NQ_one (by omega)))
        · exact QB_nq h (NQ_one (by omega))
  · rw [if_neg e1]
    by_cases e2 : sgu s p u = 0
    · rw [if_pos e2]
      exact QB_nq h NQ_aw
    rw [if_neg e2]
    by_cases e3 : s 100 p = 407
    · rw [if_pos e3]
      unfold rwx
      by_cases e4 : s 101 p < 0 ∨ 12 ≤ s 101 p
      · rw [if_pos e4]
        exact h
      rw [if_neg e4]
      by_cases e5 : 8 ≤ s 101 p
      · rw [if_pos e5]
        by_cases e6 : 0 < s (qin (s 101 p)) 2
        · rw [if_pos e6]
          dsimp only
          rw [apw_cons, apw_cons]
          refine QB_nq ?_ (NQ_app (a := [_]) (NQ_one (by omega)) (NQ_one (by omega)))
          intro i hi
          have hb := h i hi
          have hq : qin (s 101 p) = 154 + 2 * (s 101 p - 8).toNat := rfl
          rw [hq] at e6 ⊢
          dsimp only
          by_cases e7 : i = (s 101 p - 8).toNat
          · rw [← e7] at e6 ⊢
            have o1 : ∀ j (z w : Int), up2 (up2 s (154 + 2 * i) 1 z) (154 + 2 * i) 2 w (162 + 2 * i) j = s (162 + 2 * i) j := fun j z w => (if_neg (by omega)).trans (if_neg (by omega))
            have o2 : ∀ (z w : Int), up2 (up2 s (154 + 2 * i) 1 z) (154 + 2 * i) 2 w (154 + 2 * i) 1 = z := fun z w => (if_neg (by omega)).trans up_self
            rw [o1, o1, o2, up_self]
            omega
          · have o1 : ∀ k j (z w : Int), k = 154 + 2 * i ∨ k = 162 + 2 * i → up2 (up2 s (154 + 2 * (s 101 p - 8).toNat) 1 z) (154 + 2 * (s 101 p - 8).toNat) 2 w k j = s k j := fun k j z w hk => (if_neg (by omega)).trans (if_neg (by omega))
            rw [o1 _ _ _ _ (.inl rfl), o1 _ _ _ _ (.inl rfl), o1 _ _ _ _ (.inr rfl), o1 _ _ _ _ (.inr rfl)]
            exact hb
        · rw [if_neg e6]
          exact QB_nq h (NQ_one (by omega))
      · rw [if_neg e5]
        split
        · exact QB_nq h (NQ_app NQ_ho (NQ_one (by omega)))
        · exact QB_nq h (NQ_one (by omega))
    · rw [if_neg e3]
      split
      · exact QB_nq h NQ_aw
      · exact QB_nq h (NQ_app NQ_as NQ_tw)
theorem QB_up {k j : Nat} {v : Int} (h : QBx s) (hk : k < 154) : QBx (up2 s k j v) := QB_nq (ws := [(k, j, v)]) h (NQ_one hk)
theorem QB_st (h : QBx s) : QBx (apw (Wrx s p).1 s) := by
  unfold Wrx
  split
  · exact QB_nq h (NQ_app (NQ_app (a := [_, _]) (NQ_app (a := [_]) (NQ_one (by omega)) (NQ_one (by omega))) NQ_as) NQ_tw)
  · show QBx (apw ([(144, p, trn s p + 1)] ++ _) s)
    rw [apw_app]
    split
    · exact QB_nq (QB_nq h (NQ_one (by omega))) NQ_ew
    · split
      · exact QB_nq (QB_nq h (NQ_one (by omega))) NQ_cw
      · split
        · have e : mwx s p (trn s p) = mwx (up2 s 144 p (trn s p + 1)) p (trn s p) := (X_mw (fun k j hk => if_neg (fun q => hk q.1))).symm
          rw [e]
          exact QB_mw (QB_up h (by omega))
        · exact QB_nq (QB_nq h (NQ_one (by omega))) NQ_gw
end QUEUE
