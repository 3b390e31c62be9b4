/-! How often a part has been turned to. -/
section TURNS
variable {s s2 : tab} {p : Nat} {u v x y B : Int}
def N4x (B : Int) (ws : wrl) : Prop := 0 ≤ B → ∀ w ∈ ws, w.1 = 144 → w.2.2 ≤ B
theorem N4_nil : N4x B [] := fun _ w hw => by cases hw
theorem N4_app {a b : wrl} (ha : N4x B a) (hb : N4x B b) : N4x B (a ++ b) := fun h w hw => (List.mem_append.mp hw).elim (ha h w) (hb h w)
theorem N4_one {k j : Nat} {v : Int} (h : 0 ≤ B → k = 144 → v ≤ B) : N4x B [(k, j, v)] := fun hB w hw => by
  simp only [List.mem_cons, List.not_mem_nil, or_false] at hw
  rw [hw]
  exact h hB
theorem N4_aw : N4x B (awx s x y).1 := by
  unfold awx
  split
  · exact N4_app (a := [_]) (N4_one (fun _ _ => by omega)) (N4_one (fun _ _ => by omega))
  · exact N4_nil
theorem N4_tw : N4x B (twx s x y).1 := by
  unfold twx
  split
  · refine N4_app (a := [(145, x.toNat, y)]) (b := if s 143 x.toNat < 0 then [(142, 13, 1)] else []) (N4_one (fun _ _ => by omega)) ?_
    by_cases e : s 143 x.toNat < 0
    · rw [if_pos e]
      exact N4_one (fun _ _ => by omega)
    · rw [if_neg e]
      exact N4_nil
  · exact N4_nil
theorem N4_ot : N4x B (otx s x y v).1 := by
  unfold otx
  split
  · exact N4_aw
  · exact N4_tw
theorem N4_as : N4x B (asx s x y v) := by
  unfold asx
  split
  · exact N4_one (fun _ _ => by omega)
  · split
    · exact N4_one (fun _ _ => by omega)
    · exact N4_nil
theorem N4_pw {f : Int} : ∀ (n : Nat) (i x : Int), N4x B (pwx s f n i x)
  | 0, _, _ => N4_nil
  | n + 1, i, x => N4_app N4_as (N4_pw n (i + 1) (flx s x))
theorem N4_bw : ∀ (n : Nat) (x : Int), N4x B (bwx s p n x).1
  | 0, _ => N4_nil
  | n + 1, x => N4_app N4_aw (N4_bw n (flx s x))
theorem N4_ho : N4x B (hox s x y v).1 := by
  unfold hox
  split
  · exact N4_app (N4_app (a := [_]) (N4_one (fun _ _ => by omega)) (N4_one (fun _ _ => by omega))) N4_tw
  · exact N4_nil
theorem N4_ew : N4x B (ewx s p u).1 := by
  unfold ewx
  repeat' split
  all_goals first | exact N4_tw | exact N4_aw
theorem N4_cw : N4x B (cwx s p u).1 := by
  unfold cwx
  split
  · exact N4_app (N4_one (fun _ _ => by omega)) N4_aw
  · split
    · exact N4_app (N4_app (N4_pw _ _ _) (N4_one (fun _ _ => by omega))) N4_aw
    · exact N4_app (N4_one (fun _ _ => by omega)) N4_ot
theorem N4_gw : N4x B (gwx s p u).1 := by
  unfold gwx
  split
  · split
    · exact N4_aw
    · exact N4_ot
  · split
    · split
      · exact N4_aw
      · exact N4_ot
    · split
      · exact N4_ot
      · split
        · exact N4_app (N4_one (fun _ _ => by omega)) N4_ot
        · split
          · split
            · exact N4_bw _ _
            · split
              · exact N4_tw
              · exact N4_nil
          · exact N4_tw
theorem ap_b {B : Int} : ∀ (ws : wrl) (s : tab) (j : Nat), (∀ w ∈ ws, w.1 = 144 → w.2.2 ≤ B) → s 144 j ≤ B → apw ws s 144 j ≤ B
  | [], _, _, _, h => h
  | w :: ws, s, j, hw, h => by
    rw [apw_cons]
    refine ap_b ws _ j (fun w2 h2 => hw w2 (List.mem_cons_of_mem _ h2)) ?_
    by_cases e : 144 = w.1 ∧ j = w.2.1
    · have := hw w List.mem_cons_self e.1.symm
      rw [show up2 s w.1 w.2.1 w.2.2 144 j = w.2.2 from if_pos e]
      exact this
    · rw [show up2 s w.1 w.2.1 w.2.2 144 j = s 144 j from if_neg e]
      exact h
theorem N4_mw : N4x B (mwx s p u).1 := by
  have q1 : ∀ x, qou x ≠ 144 := fun x => by unfold qou; omega
  have q2 : ∀ x, qin x ≠ 144 := fun x => by unfold qin; omega
  have q3 : ∀ x, qou x + 1 ≠ 144 := fun x => by unfold qou; omega
  unfold mwx
  split
  · split
    · exact N4_aw
    · unfold swx
      split
      · exact N4_nil
      · split
        · split
          · exact N4_app (N4_app (a := [_]) (N4_one (fun _ e => absurd e (q3 _))) (N4_one (fun _ e => absurd e (q1 _)))) N4_tw
          · exact N4_one (fun _ _ => by omega)
        · split
          · exact N4_app N4_ho (N4_one (fun _ _ => by omega))
          · exact N4_one (fun _ _ => by omega)
  · split
    · exact N4_aw
    · split
      · unfold rwx
        split
        · exact N4_nil
        · split
          · split
            · exact N4_app (a := [_]) (N4_one (fun _ e => absurd e (q2 _))) (N4_app (a := [_]) (N4_one (fun _ e => absurd e (q2 _))) (N4_app (a := [_]) (N4_one (fun _ _ => by omega)) (N4_one (fun _ _ => by omega))))
            · exact N4_one (fun _ _ => by omega)
          · split
            · exact N4_app N4_ho (N4_one (fun _ _ => by omega))
            · exact N4_one (fun _ _ => by omega)
      · split
        · exact N4_aw
        · exact N4_app N4_as N4_tw
/-- a turn adds one at most -/
theorem st_b4 {C : Int} (h0 : 0 ≤ C) (h : ∀ j, s 144 j ≤ C) : ∀ j, apw (Wrx s p).1 s 144 j ≤ C + 1 := fun j => by
  have ht : trn s p + 1 ≤ C + 1 := by
    have := h p
    unfold trn
    split <;> omega
  have hp := h p
  have key : N4x (C + 1) (Wrx s p).1 := by
    unfold Wrx
    split
    · exact N4_app (N4_app (a := [_]) (N4_one (fun _ _ => by omega)) (N4_app (a := [_]) (N4_one (fun _ _ => by omega)) N4_as)) N4_tw
    · refine N4_app (a := [_]) (N4_one (fun _ _ => by omega)) ?_
      split
      · exact N4_ew
      · split
        · exact N4_cw
        · split
          · exact N4_mw
          · exact N4_gw
  have := h j
  exact ap_b _ _ _ (key (by omega)) (by omega)
/-- how long a list is -/
theorem cnt_len {M : Nat} : ∀ l : List Int, (∀ v ∈ l, 0 ≤ v ∧ v < (M : Int)) → smx (fun r => (l.count (r : Int) : Int)) M = (l.length : Int)
  | [], _ => by
    have e : (fun r : Nat => ((([] : List Int).count (r : Int) : Nat) : Int)) = fun _ => 0 := funext fun r => by rw [List.count_nil]; rfl
    rw [e, smz_0]
    rfl
  | v :: l, h => by
    have hv := h v List.mem_cons_self
    have e : (fun r : Nat => (((v :: l).count (r : Int) : Nat) : Int)) = (fun r : Nat => ((l.count (r : Int) : Nat) : Int) + (if r = v.toNat then 1 else 0)) := funext fun r => by
      rw [List.count_cons]
      simp only [beq_iff_eq]
      by_cases c : v = (r : Int)
      · rw [if_pos c, if_pos (by omega)]
        omega
      · rw [if_neg c, if_neg (by omega)]
        omega
    rw [e, smz_u, if_pos (by omega), cnt_len l (fun w hw => h w (List.mem_cons_of_mem _ hw)), List.length_cons]
    omega
end TURNS
