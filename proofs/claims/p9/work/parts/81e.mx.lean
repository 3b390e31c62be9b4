/-! push, pop, read of branch b, by what they keep. -/
def LD (b : Nat) (r r2 : tab) : Prop := ∀ k j, ¬ ((k = 205 ∨ k = 208) ∧ j = b) → ¬ (k = 220 + b) → ¬ (k = 203 ∨ k = 204 ∨ 213 ≤ k ∧ k ≤ 218) → r2 k j = r k j
section MX
variable {d C b p : Nat} {r r1 r2 : tab} {z : Int} {j k : Nat}
theorem LD_rf : LD b r r := fun _ _ _ _ _ => rfl
theorem LD_tr (h : LD b r r1) (q : LD b r1 r2) : LD b r r2 := fun k j a c e => (q k j a c e).trans (h k j a c e)
theorem LD_up (h : LD b r r1) (hk : (k = 205 ∨ k = 208) ∧ j = b ∨ k = 203 ∨ k = 204 ∨ 213 ≤ k ∧ k ≤ 218) : LD b r (up2 r1 k j z) := fun k2 j2 a c e => (if_neg (by rintro ⟨rfl, rfl⟩; omega)).trans (h k2 j2 a c e)
theorem LD_LC (h : LD b r r2) : LC b r r2 := fun k j a c _ e _ => h k j (by omega) c (by omega)
theorem LD_RF (hb : b < 700) (h : LD b r r2) (hR : RF r) : RF r2 := RX_RF (LC_RX hb (LD_LC h)) hR
theorem x_readb (hC : C = 177 ∨ C = 186) (s : rS) (hR : RF s.1) (h17 : s.1 170 17 = (C : Int)) (hb : b < 700) (hp : s.1 205 b = (p : Int)) (hp2 : p < 24000) : cr (d + 1) 166 [.ref 170, vi (b : Int)] s (fun s2 out => out = some (some (vi (s.1 (C + 1) p))) ∧ i32 (s.1 (C + 1) p) ∧ s2.2 = s.2 ∧ LD b s.1 s2.1 ∧ s2.1 205 b = ((p + 1 : Nat) : Int) ∧ s2.1 208 b = s.1 208 b) := by
  refine cr_mono (c_readb (d := d) hC s hR h17 hb hp hp2) ?_
  rintro s2 out ⟨rfl, h1, rfl⟩
  exact ⟨rfl, h1, rfl, LD_up LD_rf (by omega), by show up2 s.1 205 b ((p : Int) + 1) 205 b = _; exact up_self, by show up2 s.1 205 b ((p : Int) + 1) 208 b = _; exact up_nk (by omega)⟩
theorem x_push {v : Int} (s : rS) (hR : RF s.1) (hb : b < 700) (hv : i32 v) (ht : 0 ≤ s.1 208 b ∧ s.1 208 b < 1000) : cr (d + 1) 164 [.ref 170, vi (b : Int), vi v] s (fun s2 out => out = some none ∧ s2.2 = s.2 ∧ LD b s.1 s2.1 ∧ s2.1 205 b = s.1 205 b ∧ s2.1 208 b = s.1 208 b + 1) := by
  refine cr_mono (c_push (d := d) s hR hb hv ht) ?_
  rintro s2 out ⟨rfl, rfl⟩
  refine ⟨rfl, rfl, fun k j a c e => ?_, ?_, ?_⟩
  · exact (if_neg (by omega)).trans (if_neg (by omega))
  · show up2 (up2 s.1 (220 + b) (s.1 208 b).toNat v) 208 b (s.1 208 b + 1) 205 b = _
    rw [up_nk (by omega), up_nk (by omega)]
  · show up2 (up2 s.1 (220 + b) (s.1 208 b).toNat v) 208 b (s.1 208 b + 1) 208 b = _
    exact up_self
theorem x_pop (s : rS) (hR : RF s.1) (hb : b < 700) (ht : 0 < s.1 208 b ∧ s.1 208 b ≤ 1000) : cr (d + 1) 167 [.ref 170, vi (b : Int)] s (fun s2 out => ∃ v : Int, out = some (some (vi v)) ∧ i32 v ∧ s2.2 = s.2 ∧ LD b s.1 s2.1 ∧ s2.1 205 b = s.1 205 b ∧ s2.1 208 b = s.1 208 b - 1) := by
  refine cr_mono (c_pop (d := d) s hR hb ht) ?_
  rintro s2 out ⟨rfl, h1, rfl⟩
  refine ⟨_, rfl, h1, rfl, LD_up LD_rf (by omega), (by show up2 s.1 208 b (s.1 208 b - 1) 205 b = _; exact up_nk (by omega)), ?_⟩
  show up2 s.1 208 b (s.1 208 b - 1) 208 b = _
  exact up_self
end MX
