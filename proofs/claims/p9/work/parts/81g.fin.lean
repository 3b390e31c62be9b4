/-! Steps that end a run. -/
theorem ST_fin {F : Ph} {G : Nat → gB} {b : Nat} {s s2 : rS} (hR : RF s.1) (hX : RX s.1 s2.1) (hH : HD s2.1) (hc : s2.2 = s.2) (h : s2.1 170 52 = 3 ∨ s2.1 170 52 = 1) : ON F G b s s2 (some none) := ⟨rfl, hc, RX_RF hX hR, hX, hH, .inl h⟩
theorem LD_RX {b : Nat} {r r2 : tab} (hb : b < 700) (h : LD b r r2) : RX r r2 := LC_RX hb (LD_LC h)
theorem RX_tr {r r1 r2 : tab} (h : RX r r1) (q : RX r1 r2) : RX r r2 := fun k j hn => (q k j hn).trans (h k j hn)
theorem RX_rf {r : tab} : RX r r := fun _ _ _ => rfl
theorem RX_up {r r1 : tab} {k j : Nat} {z : Int} (h : RX r r1) (hk : RS k j) : RX r (up2 r1 k j z) := fun a c hn => (if_neg (by rintro ⟨rfl, rfl⟩; exact hn hk)).trans (h a c hn)
theorem RS_rc {k j : Nat} (q : RS k j) : tb_rc k j = none := by
  rcases q with q | q | q | q | q | ⟨rfl, q⟩
  · have : k = 203 ∨ k = 204 ∨ k = 205 ∨ k = 206 ∨ k = 207 ∨ k = 208 ∨ k = 209 ∨ k = 210 ∨ k = 211 := by omega
    rcases this with rfl | rfl | rfl | rfl | rfl | rfl | rfl | rfl | rfl <;> rfl
  · have : k = 213 ∨ k = 214 ∨ k = 215 ∨ k = 216 ∨ k = 217 ∨ k = 218 := by omega
    rcases this with rfl | rfl | rfl | rfl | rfl | rfl <;> rfl
  · exact rc_hi (by omega) (by omega) (by omega)
  · exact rc_hi (by omega) (by omega) (by omega)
  · exact rc_hi (by omega) (by omega) (by omega)
  · have : j = 52 ∨ j = 53 ∨ j = 54 ∨ j = 55 := by omega
    rcases this with rfl | rfl | rfl | rfl <;> rfl
