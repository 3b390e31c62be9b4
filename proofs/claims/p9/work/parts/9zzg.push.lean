/-! What is pushed is a part. -/
section PUSHX
variable {s s2 : tab} {p : Nat} {u v x y : Int}
def NVx (l : List Int) : Prop := ∀ v ∈ l, 0 ≤ v
theorem NV_nil : NVx [] := fun w hw => by cases hw
theorem NV_app {a b : List Int} (ha : NVx a) (hb : NVx b) : NVx (a ++ b) := fun w hw => (List.mem_append.mp hw).elim (ha w) (hb w)
theorem NV_pu : NVx (pux x) := by
  unfold pux
  split
  · rename_i h
    intro w hw
    simp only [List.mem_cons, List.not_mem_nil, or_false] at hw
    rw [hw]
    exact h.1
  · exact NV_nil
theorem NV_aw : NVx (awx s x y).2 := by
  unfold awx
  split
  · exact NV_pu
  · exact NV_nil
theorem NV_tw : NVx (twx s x y).2 := by
  unfold twx
  split
  · exact NV_pu
  · exact NV_nil
theorem NV_ot : NVx (otx s x y v).2 := by
  unfold otx
  split
  · exact NV_aw
  · exact NV_tw
theorem NV_bw : ∀ (n : Nat) (x : Int), NVx (bwx s p n x).2
  | 0, _ => NV_nil
  | n + 1, x => NV_app NV_aw (NV_bw n (flx s x))
theorem NV_ho : NVx (hox s x y v).2 := by
  unfold hox
  split
  · exact NV_app NV_pu NV_tw
  · exact NV_nil
theorem NV_ew : NVx (ewx s p u).2 := by
  unfold ewx
  repeat' split
  all_goals first | exact NV_tw | exact NV_aw
theorem NV_cw : NVx (cwx s p u).2 := by
  unfold cwx
  split
  · exact NV_app NV_nil NV_aw
  · split
    · exact NV_app NV_nil NV_aw
    · exact NV_app NV_nil NV_ot
theorem NV_gw : NVx (gwx s p u).2 := by
  unfold gwx
  split
  · split
    · exact NV_aw
    · exact NV_ot
  · split
    · split
      · exact NV_aw
      · exact NV_ot
    · split
      · exact NV_ot
      · split
        · exact NV_app NV_nil NV_ot
        · split
          · split
            · exact NV_bw _ _
            · split
              · exact NV_tw
              · exact NV_nil
          · exact NV_tw
theorem NV_mw : NVx (mwx s p u).2 := by
  unfold mwx
  split
  · split
    · exact NV_aw
    · unfold swx
      split
      · exact NV_nil
      · split
        · split
          · exact NV_app NV_nil NV_tw
          · exact NV_nil
        · split
          · exact NV_app NV_ho NV_nil
          · exact NV_nil
  · split
    · exact NV_aw
    · split
      · unfold rwx
        split
        · exact NV_nil
        · split
          · split
            · dsimp only
              exact NV_pu
            · exact NV_nil
          · split
            · exact NV_app NV_ho NV_nil
            · exact NV_nil
      · split
        · exact NV_aw
        · exact NV_app NV_nil NV_tw
theorem NV_W : NVx (Wrx s p).2 := by
  unfold Wrx
  split
  · exact NV_app NV_nil NV_tw
  · refine NV_app (a := []) NV_nil ?_
    split
    · exact NV_ew
    · split
      · exact NV_cw
      · split
        · exact NV_mw
        · exact NV_gw
end PUSHX
