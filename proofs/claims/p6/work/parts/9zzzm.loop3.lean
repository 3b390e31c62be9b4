/-! The reference's run is a run of the parts machine. -/
section LOOP3
variable {K : SCt} {M : Nat} {most : Int}
theorem st_of {W : Prop} {r s : tab} {Q : Nat → Nat} {act : Nat → Prop} {lf dr : Nat → Int} {LG : Nat → Prop} {b : Nat} (hbr : BRx K W r s Q act lf dr LG b) : (r 206 b = 1 ∨ r 206 b = 2 ∨ r 206 b = 3 ∨ r 206 b = 5 ∨ r 206 b = 6) ∨ r 206 b = 4 ∧ 0 ≤ r 207 b ∧ r 207 b < 4 := by
  rcases hbr.2 with ⟨c0, _⟩ | ⟨c0, _⟩ | ⟨c0, _⟩ | ⟨c0, _⟩ | ⟨z, l, S, B, v, tp, _, _, _, _, c5, _, _, _, c9, _⟩ | ⟨z, m, S, B, P, tp, _, _, _, _, _, _, _, _, _, c10, _⟩ | ⟨c0, _⟩
  · omega
  · omega
  · omega
  · omega
  · rcases c9 with ⟨_, c, _⟩ | ⟨_, c, d, _⟩
    · omega
    · exact .inr ⟨c, by omega, by omega⟩
  · rcases c10 with ⟨_, c, _⟩ | ⟨_, c, _⟩ <;> omega
  · omega
end LOOP3
