/-! The loop of the reference's run. -/
section LOOP2
variable {K : SCt} {r r1 r2 s s2 : tab} {Q Q2 : Nat → Nat} {b M n : Nat} {v : Option (Int × tab)} {y : Int}
/-- instructions of branch b within the loop -/
theorem ms_19 : ∀ (k f : Nat) (r : tab), MS b k r r1 → it eB f 24 [y, (b : Int)] r = some v → ∃ f2, f2 + k ≤ f ∧ it eB f2 24 [y, (b : Int)] r1 = some v
  | 0, f, r, h, e => by
    have h : r1 = r := h
    rw [h]
    exact ⟨f, by omega, e⟩
  | k + 1, 0, r, _, e => by cases e
  | k + 1, f + 1, r, ⟨h1, h2, rx, h3, h4⟩, e => by
    have e : eM162_141 (it eB f) y (b : Int) r = some v := e
    unfold eM162_141 at e
    rw [Int.toNat_natCast, if_neg (fun w => w h1), if_neg (fun w => w h2)] at e
    rcases bo_inv e with ⟨h9, _⟩ | ⟨z9, t9, h9, h8⟩
    · have := it_eG f _ _ _ _ h9
      rw [show eG 11 [(b : Int)] r = some (some (0, rx)) from h3] at this
      cases this
    · have := it_eG f _ _ _ _ h9
      rw [show eG 11 [(b : Int)] r = some (some (0, rx)) from h3] at this
      cases this
      obtain ⟨f2, w1, w2⟩ := ms_19 k f rx h4 h8
      exact ⟨f2, by omega, w2⟩
theorem TR_of {f : Nat} (h : it eB f 24 [y, (b : Int)] r = some v) : TRM b r := fun r1 k hm h1 h2 => by
  obtain ⟨f2, _, e⟩ := ms_19 k f r hm h
  cases f2 with
  | zero => cases e
  | succ f2 =>
    have e : eM162_141 (it eB f2) y (b : Int) r1 = some v := e
    unfold eM162_141 at e
    rw [Int.toNat_natCast, if_neg (fun w => w h1), if_neg (fun w => w h2)] at e
    rcases bo_inv e with ⟨h9, _⟩ | ⟨z9, t9, h9, h8⟩
    · exact ⟨_, it_eG f2 _ _ _ _ h9⟩
    · exact ⟨_, it_eG f2 _ _ _ _ h9⟩
/-- no branch can go on -/
def QUb (r : tab) (b : Nat) : Prop := LVb r b → r 206 b ≠ 1 ∧ (r 206 b = 4 → 40 ≤ r 1630 (4 + (r 207 b).toNat)) ∧ (r 206 b = 5 → r 1630 (r 207 b).toNat ≤ 0) ∧ (r 206 b = 2 ∨ r 206 b = 3 → ∀ y : Nat, (y : Int) < r 170 55 → r 206 y = 5 - r 206 b → r 207 y = r 207 b → y = b)
/-- how the reference's run ends, and a run of the parts machine -/
def OUT (K : SCt) (M : Nat) (most : Int) (s : tab) (Q : Nat → Nat) (n : Nat) (v : Option (Int × tab)) : Prop := ∃ ps, okx rdx stx (s, Q, n) ps ∧ (
  (∃ rq s2 Q2 n2 act lf dr LG, v = some (2, rq) ∧ rnx stx (s, Q, n) ps = (s2, Q2, n2) ∧ REL K M False rq s2 Q2 n2 act lf dr LG ∧ rq 170 54 = most ∧ ∀ b, QUb rq b) ∨
  (∃ rq, v = some (3, rq) ∧ rq 170 53 = 0 ∧ rq 170 52 = 3 ∧ STr K rq ∧ most < ((rnx stx (s, Q, n) ps).2.2 : Int)) ∨
  (∃ rq s2 Q2 n2, v = some (1, rq) ∧ rnx stx (s, Q, n) ps = (s2, Q2, n2) ∧ EDx K M rq s2 Q2 n2 ∧ rq 170 54 = most))
theorem OU_pre {most : Int} {ps : List Nat} {n2 : Nat} (h : okx rdx stx (s, Q, n) ps) (e : rnx stx (s, Q, n) ps = (s2, Q2, n2)) (k : OUT K M most s2 Q2 n2 v) : OUT K M most s Q n v := by
  have rn : ∀ {qs}, rnx stx (s, Q, n) (ps ++ qs) = rnx stx (s2, Q2, n2) qs := fun {qs} => by rw [rn_app, e]
  obtain ⟨qs, k0, k⟩ := k
  refine ⟨ps ++ qs, (ok_app ps _ _).mpr ⟨h, by rw [e]; exact k0⟩, ?_⟩
  rw [rn]
  exact k
/-- once lost or ended, the loop is left -/
theorem lv_17 {f : Nat} (h : it eB f 22 [y] r = some v) (h2 : r 170 52 ≠ 2) : v = some (r 170 52, if r 170 52 = 3 then up2 r 170 53 0 else r) := by
  cases f with
  | zero => cases h
  | succ f =>
    have h : eM162_59 (it eB f) y r = some v := h
    unfold eM162_59 at h
    by_cases c : y = 0 <;> by_cases c3 : r 170 52 = 3
    · rw [if_pos c, if_neg (fun w => w c3)] at h
      cases h
      rw [if_pos c3]
    · rw [if_pos c, if_pos c3] at h
      cases h
      rw [if_neg c3]
    · rw [if_neg c, if_pos h2, if_neg (fun w => w c3)] at h
      cases h
      rw [if_pos c3]
    · rw [if_neg c, if_pos h2, if_pos c3] at h
      cases h
      rw [if_neg c3]
theorem lv_18 {f : Nat} {y3 : Int} (h : it eB f 23 [y, y3] r = some v) (h2 : r 170 52 ≠ 2) : v = some (r 170 52, if r 170 52 = 3 then up2 r 170 53 0 else r) := by
  cases f with
  | zero => cases h
  | succ f =>
    have h : eM162_75 (it eB f) y y3 r = some v := h
    unfold eM162_75 at h
    by_cases c : r 170 55 ≤ y3
    · rw [if_pos c] at h
      exact lv_17 h h2
    · rw [if_neg c, if_pos h2] at h
      exact lv_17 h h2
theorem lv_19 {f : Nat} {y3 : Int} (h : it eB f 24 [y, y3] r = some v) (h2 : r 170 52 ≠ 2) : v = some (r 170 52, if r 170 52 = 3 then up2 r 170 53 0 else r) := by
  cases f with
  | zero => cases h
  | succ f =>
    have h : eM162_141 (it eB f) y y3 r = some v := h
    unfold eM162_141 at h
    by_cases c : r 206 y3.toNat = 1
    · rw [if_neg (fun w => w c), if_pos h2] at h
      exact lv_18 h h2
    · rw [if_pos c] at h
      exact lv_18 h h2
end LOOP2
