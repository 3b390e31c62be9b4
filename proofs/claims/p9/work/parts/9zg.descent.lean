/-! Steps that commute: all whole runs end alike. -/
section RDX
variable {X : Type} {ok : X → Nat → Prop} {st : X → Nat → X} {J : X → Prop}
def rnx (st : X → Nat → X) : X → List Nat → X
  | x, [] => x
  | x, p :: ps => rnx st (st x p) ps
def okx (ok : X → Nat → Prop) (st : X → Nat → X) : X → List Nat → Prop
  | _, [] => True
  | x, p :: ps => ok x p ∧ okx ok st (st x p) ps
theorem rn_J (hJ : ∀ x p, J x → ok x p → J (st x p)) : ∀ (ps : List Nat) (x : X), J x → okx ok st x ps → J (rnx st x ps)
  | [], _, h, _ => h
  | p :: ps, x, h, hp => rn_J hJ ps (st x p) (hJ x p h hp.1) hp.2
theorem rn_app : ∀ (ps qs : List Nat) (x : X), rnx st x (ps ++ qs) = rnx st (rnx st x ps) qs
  | [], _, _ => rfl
  | p :: ps, qs, x => rn_app ps qs (st x p)
theorem ok_app : ∀ (ps qs : List Nat) (x : X), okx ok st x (ps ++ qs) ↔ okx ok st x ps ∧ okx ok st (rnx st x ps) qs
  | [], _, _ => ⟨fun h => ⟨trivial, h⟩, fun h => h.2⟩
  | p :: ps, qs, x => by
    have := ok_app ps qs (st x p)
    exact ⟨fun h => ⟨⟨h.1, (this.mp h.2).1⟩, (this.mp h.2).2⟩, fun h => ⟨h.1.1, this.mpr ⟨h.1.2, h.2⟩⟩⟩
/-- a step that can be taken may be taken first -/
theorem rn_front (hJ : ∀ x p, J x → ok x p → J (st x p)) (hc : ∀ x p q, J x → ok x p → ok x q → p ≠ q → ok (st x p) q ∧ st (st x p) q = st (st x q) p) {p : Nat} : ∀ (qs : List Nat) (x : X), J x → okx ok st x qs → (∀ r, ¬ ok (rnx st x qs) r) → ok x p → ∃ rs, okx ok st (st x p) rs ∧ rnx st (st x p) rs = rnx st x qs ∧ rs.length + 1 = qs.length
  | [], x, _, _, hd, hp => absurd hp (hd p)
  | q :: qs, x, hx, hq, hd, hp => by
    by_cases e : q = p
    · subst e
      exact ⟨qs, hq.2, rfl, rfl⟩
    · obtain ⟨k1, k2⟩ := hc x q p hx hq.1 hp e
      obtain ⟨k3, _⟩ := hc x p q hx hp hq.1 (fun h => e h.symm)
      obtain ⟨rs, r1, r2, r3⟩ := rn_front hJ hc qs (st x q) (hJ x q hx hq.1) hq.2 hd k1
      rw [k2] at r1 r2
      exact ⟨q :: rs, ⟨k3, r1⟩, r2, by simp only [List.length_cons]; omega⟩
/-- whatever was done, the same end is still to be had -/
theorem rn_conf (hJ : ∀ x p, J x → ok x p → J (st x p)) (hc : ∀ x p q, J x → ok x p → ok x q → p ≠ q → ok (st x p) q ∧ st (st x p) q = st (st x q) p) : ∀ (ps qs : List Nat) (x : X), J x → okx ok st x ps → okx ok st x qs → (∀ r, ¬ ok (rnx st x qs) r) → ∃ rs, okx ok st (rnx st x ps) rs ∧ rnx st (rnx st x ps) rs = rnx st x qs ∧ ps.length + rs.length = qs.length
  | [], qs, x, _, _, hq, _ => ⟨qs, hq, rfl, by simp⟩
  | p :: ps, qs, x, hx, hp, hq, hd => by
    obtain ⟨rs, r1, r2, r3⟩ := rn_front hJ hc qs x hx hq hd hp.1
    rw [← r2] at hd
    obtain ⟨us, u1, u2, u3⟩ := rn_conf hJ hc ps rs (st x p) (hJ x p hx hp.1) hp.2 r1 hd
    exact ⟨us, u1, u2.trans r2, by simp only [List.length_cons]; omega⟩
/-- two whole runs -/
theorem rn_same (hJ : ∀ x p, J x → ok x p → J (st x p)) (hc : ∀ x p q, J x → ok x p → ok x q → p ≠ q → ok (st x p) q ∧ st (st x p) q = st (st x q) p) {ps qs : List Nat} {x : X} (hx : J x) (hp : okx ok st x ps) (hq : okx ok st x qs) (hdp : ∀ r, ¬ ok (rnx st x ps) r) (hdq : ∀ r, ¬ ok (rnx st x qs) r) : rnx st x ps = rnx st x qs := by
  obtain ⟨rs, r1, r2, r3⟩ := rn_conf hJ hc ps qs x hx hp hq hdq
  cases rs with
  | nil => exact r2
  | cons r rs => exact absurd r1.1 (hdp r)
end RDX
