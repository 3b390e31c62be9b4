/-! STATEMENTS that begin with a NAME, in both. -/
theorem bo_bo {X : RO} {f g : Int → tab → RO} : bo (bo X f) g = bo X fun z t => bo (f z t) g := by
  cases X with
  | none => rfl
  | some y => cases y <;> rfl
theorem bo_ite {c : Prop} [Decidable c] {A B : RO} {g : Int → tab → RO} : bo (if c then A else B) g = if c then bo A g else bo B g := by
  split <;> rfl
theorem up_comm {r : tab} {k j k2 j2 : Nat} {a b : Int} (h : ¬ (k = k2 ∧ j = j2)) : up2 (up2 r k j a) k2 j2 b = up2 (up2 r k2 j2 b) k j a := by
  funext x y
  by_cases c1 : x = k ∧ y = j
  · obtain ⟨rfl, rfl⟩ := c1
    rw [up_self]
    exact (if_neg h).trans up_self
  · by_cases c2 : x = k2 ∧ y = j2
    · obtain ⟨rfl, rfl⟩ := c2
      rw [up_self]
      exact ((if_neg c1).trans up_self).symm
    · exact ((if_neg c2).trans (if_neg c1)).trans ((if_neg c1).trans (if_neg c2)).symm
theorem lsl_12 : ∀ m : Fin 12, lsl (lsl 1 ((m : Nat) : Int)) 12 = lsl 1 (12 + ((m : Nat) : Int)) := by decide
section NAMED
variable {T : Nat → Int} {n e N : Nat} {g : Gtt} {s t s2 t2 : tab} {rc : MRq}
noncomputable def asgX (x k : Int) (s : tab) : RO := TXk x k s fun z y s1 => bo (cG 29 [61] s1) fun _ s2 => bo (cG 40 [x] s2) fun w s3 => bo (cG 29 [59] s3) fun _ s4 => some (some (cadz s4, cad s4 405 z w y))
noncomputable def sndX (x k : Int) (s : tab) : RO := bo (cG 40 [x] s) fun z s1 => bo (cG 29 [59] s1) fun _ s2 => some (some (cadz (up2 s2 131 9 (lo (s2 131 9) (lsl 1 (lin s2 k)))), cad (up2 s2 131 9 (lo (s2 131 9) (lsl 1 (lin s2 k)))) 406 (lin (up2 s2 131 9 (lo (s2 131 9) (lsl 1 (lin s2 k)))) k) z (-1)))
noncomputable def rcvX (x k : Int) (s : tab) : RO := bo (cG 33 [] s) fun k2 s5 => TXk x k2 (stp s5) fun z y s1 => bo (cG 29 [59] s1) fun _ s2 => some (some (cadz (up2 s2 131 9 (lo (s2 131 9) (lsl 1 (ipl 12 (lin s2 k))))), cad (up2 s2 131 9 (lo (s2 131 9) (lsl 1 (ipl 12 (lin s2 k))))) 407 (lin (up2 s2 131 9 (lo (s2 131 9) (lsl 1 (ipl 12 (lin s2 k))))) k) z y))
noncomputable def NXx (x k : Int) (s : tab) : RO := if (nkd s k = 5 ∧ nnm s k = s 131 13) ∨ nkd s k = 6 ∨ k < s 131 14 then some none else if kkd (stp s) = 33 then (if nkd s k = 2 ∨ nkd s k = 4 then sndX x k (stp (stp s)) else some none) else if kkd (stp s) = 61 ∨ kkd (stp s) = 91 then asgX x k (stp s) else if kkd (stp s) = 63 then (if nkd s k = 2 ∨ nkd s k = 3 then rcvX x k (stp (stp s)) else some none) else if kkd (stp s) = 40 ∧ nkd s k = 5 then XCx 0 (cG 39 [nnm (stp s) k, x] (stp s)) else some none
theorem asg_e {x k : Int} : (bo (cG 35 [k] s) fun z s1 => if kkd s1 ≠ 91 then bo (cG 29 [61] s1) fun _ s2 => bo (cG 40 [x] s2) fun w s3 => bo (cG 29 [59] s3) fun _ s4 => some (some (cadz s4, cad s4 405 z w (-1))) else bo (cG 37 [x] s1) fun y s5 => bo (cG 29 [61] s5) fun _ s2 => bo (cG 40 [x] s2) fun w s3 => bo (cG 29 [59] s3) fun _ s4 => some (some (cadz s4, cad s4 405 z w y))) = asgX x k s := rfl
theorem rcv_e {x k : Int} : (bo (cG 33 [] s) fun k2 s5 => bo (cG 35 [k2] (stp s5)) fun z s1 => if kkd s1 ≠ 91 then bo (cG 29 [59] s1) fun _ s2 => some (some (cadz (up2 s2 131 9 (lo (s2 131 9) (lsl 1 (ipl 12 (lin s2 k))))), cad (up2 s2 131 9 (lo (s2 131 9) (lsl 1 (ipl 12 (lin s2 k))))) 407 (lin (up2 s2 131 9 (lo (s2 131 9) (lsl 1 (ipl 12 (lin s2 k))))) k) z (-1))) else bo (cG 37 [x] s1) fun y s6 => bo (cG 29 [59] s6) fun _ s2 => some (some (cadz (up2 s2 131 9 (lo (s2 131 9) (lsl 1 (ipl 12 (lin s2 k))))), cad (up2 s2 131 9 (lo (s2 131 9) (lsl 1 (ipl 12 (lin s2 k))))) 407 (lin (up2 s2 131 9 (lo (s2 131 9) (lsl 1 (ipl 12 (lin s2 k))))) k) z y))) = rcvX x k s := rfl
/-- our namedStatement -/
theorem c_nst {x : Int} (hk : kkd s = 1) (h0 : ¬ fdn s (vlu s) 0 < 0) : cG 49 [x] s = NXx x (fdn s (vlu s) 0) s := by
  rw [cG_71]
  unfold cM71
  rw [c_mean hk, if_neg h0, bo_s]
  obtain ⟨k, hkd⟩ : ∃ k, k = fdn s (vlu s) 0 := ⟨_, rfl⟩
  rw [← hkd]
  rw [asg_e, rcv_e]
  unfold NXx
  obtain ⟨c, hc⟩ : ∃ c, c = kkd (stp s) := ⟨_, rfl⟩
  obtain ⟨q, hq⟩ : ∃ q, q = nkd s k := ⟨_, rfl⟩
  rw [← hc, ← hq]
  by_cases h5 : q ≠ 5
  · rw [if_pos h5]
    by_cases h6 : q = 6
    · rw [if_pos h6, if_pos (.inr (.inl h6))]
    · rw [if_neg h6]
      by_cases ho : k < s 131 14
      · rw [if_pos ho, if_pos (.inr (.inr ho))]
      · rw [if_neg ho, if_neg (show ¬ ((q = 5 ∧ nnm s k = s 131 13) ∨ q = 6 ∨ k < s 131 14) by omega)]
        by_cases c1 : c = 33
        · rw [if_pos c1, if_pos c1]
          by_cases d1 : q = 2
          · rw [if_pos d1, if_pos (.inl d1)]
            rfl
          · rw [if_neg d1]
            by_cases d2 : q = 4
            · rw [if_neg (fun w => w d2), if_pos (.inr d2)]
              rfl
            · rw [if_pos d2, if_neg (by omega)]
        · rw [if_neg c1, if_neg c1]
          by_cases c2 : c = 61
          · rw [if_pos c2, if_pos (.inl c2)]
          · rw [if_neg c2]
            by_cases c3 : c = 63
            · rw [if_pos c3, if_neg (show ¬ (c = 61 ∨ c = 91) by omega), if_pos c3]
              by_cases d1 : q = 2
              · rw [if_pos d1, if_pos (.inl d1)]
              · rw [if_neg d1]
                by_cases d2 : q = 3
                · rw [if_neg (fun w => w d2), if_pos (.inr d2)]
                · rw [if_pos d2, if_neg (by omega)]
            · rw [if_neg c3]
              by_cases c4 : c = 91
              · rw [if_pos c4, if_pos (.inr c4)]
              · rw [if_neg c4, if_neg (show ¬ (c = 61 ∨ c = 91) by omega), if_neg c3, if_neg (show ¬ (c = 40 ∧ q = 5) by omega)]
  · rw [if_neg h5]
    by_cases hs : nnm s k ≠ s 131 13
    · rw [if_pos hs]
      by_cases h6 : q = 6
      · omega
      · rw [if_neg h6]
        by_cases ho : k < s 131 14
        · rw [if_pos ho, if_pos (.inr (.inr ho))]
        · rw [if_neg ho, if_neg (show ¬ ((q = 5 ∧ nnm s k = s 131 13) ∨ q = 6 ∨ k < s 131 14) by omega)]
          by_cases c1 : c = 33
          · rw [if_pos c1, if_pos c1, if_neg (by omega), if_pos (by omega), if_neg (by omega)]
          · rw [if_neg c1, if_neg c1]
            by_cases c2 : c = 61
            · rw [if_pos c2, if_pos (.inl c2)]
            · rw [if_neg c2]
              by_cases c3 : c = 63
              · rw [if_pos c3, if_neg (show ¬ (c = 61 ∨ c = 91) by omega), if_pos c3, if_neg (by omega), if_pos (by omega), if_neg (by omega)]
              · rw [if_neg c3]
                by_cases c4 : c = 91
                · rw [if_pos c4, if_pos (.inr c4)]
                · rw [if_neg c4, if_neg (show ¬ (c = 61 ∨ c = 91) by omega), if_neg c3]
                  by_cases c5 : c = 40
                  · rw [if_neg (fun w => w c5), if_pos ⟨c5, by omega⟩]
                    exact (if_neg (by decide)).symm
                  · rw [if_pos c5, if_neg (by omega)]
    · rw [if_neg hs, if_pos (.inl ⟨by omega, by omega⟩)]
end NAMED
