/-! What reading a STATEMENT gives. -/
def NS (C : Nat) (e : Int) (r : tab) : Prop := r C 1 ≤ 12 * r 170 5 ∧ 0 ≤ r C 3 ∧ r C 3 ≤ r C 1 ∧ 0 ≤ r 170 16 ∧ r 170 16 ≤ r 170 5 + e ∧ 0 ≤ r C 10 ∧ r C 10 ≤ r 170 5
def NXS (C : Nat) (r r2 : tab) : Prop := r2 C 1 - r C 1 ≤ 12 * (r2 170 5 - r 170 5) - 9 ∧ r C 1 ≤ r2 C 1 ∧ r C 3 ≤ r2 C 3 ∧ r2 C 3 - r C 3 ≤ r2 C 1 - r C 1 ∧ r C 10 ≤ r2 C 10 ∧ r2 C 10 - r C 10 ≤ r2 170 5 - r 170 5 ∧ r2 170 14 = r 170 14 ∧ r 170 16 ≤ r2 170 16 ∧ r2 170 16 - r 170 16 ≤ r2 170 5 - r 170 5
/-- branches from k0 to k1, and those of a mask -/
def SZ (ko : Nat → Nat) (m k0 k1 : Nat) (x : Nat) : Prop := k0 ≤ x ∧ x < k1 ∨ ZM ko m x
def SC (C : Nat) (y : gH) (m m2 k0 k1 e : Nat) (r2 : tab) : Prop := r2 170 21 < 0 → SG (ga y) (r2 (C + 1)) (gG y) m m2 0 0 ((r2 170 5).toNat - e) (gn y) (SZ (gk y) (r2 170 26).toNat k0 k1)
def SP (C : Nat) (y : gH) (m k0 e : Nat) (s : rS) : rS → hm_Out → Prop := fun s2 out => ∃ b : Int, out = some (some (vi b)) ∧ s2.2 = s.2 ∧ (b = 0 ∧ FR C s.1 s2.1 ∨ b = 1 ∧ RF s2.1 ∧ BX C (gn y) s.1 s2.1 ∧ CS s.1 s2.1 ∧ NXS C s.1 s2.1 ∧ ∃ m2 k1 : Nat, s2.1 C 1 = (m2 : Int) ∧ (k0 ≤ k1 ∧ s.1 170 5 + 3 * k1 + 2 ≤ s2.1 170 5 + 3 * k0 ∧ s2.1 170 16 - s.1 170 16 + (e : Int) ≤ s2.1 170 5 - s.1 170 5) ∧ SC C y m m2 k0 k1 e s2.1)
/-- a method that reads a STATEMENT: its number, what it asks of the token at hand, its depth -/
def CT1 (i : Nat) (tk : tab → Prop) (a dm : Int) (n : Nat) : Prop := ∀ (C : Nat) (y : gH) (m k0 : Nat) (s : rS) (deep : Int), (C = 177 ∨ C = 186) → RF s.1 → PI C y s.1 → MB (gn y) (s.1 170 26) → s.1 C 1 = (m : Int) → NS C 2 s.1 → (0 ≤ deep ∧ deep ≤ dm ∧ 3 * (20 - deep) + a ≤ (n : Int)) → tk s.1 → gk y (gn y) ≤ k0 → (∀ i j, i ≤ j → j ≤ gn y → gk y i ≤ gk y j) → cr (n + 400) i [.ref 170, vi deep] s (SP C y m k0 0 s)
def CSt (n : Nat) : Prop := CT1 141 (fun _ => True) 2 20 n
def CBl (n : Nat) : Prop := ∀ (C : Nat) (y : gH) (m k0 : Nat) (s : rS) (deep : Int), (C = 177 ∨ C = 186) → RF s.1 → PI C y s.1 → MB (gn y) (s.1 170 26) → s.1 C 1 = (m : Int) → NS C 3 s.1 → (0 ≤ deep ∧ deep ≤ 20 ∧ 3 * (20 - deep) + 3 ≤ (n : Int)) → gk y (gn y) ≤ k0 → (∀ i j, i ≤ j → j ≤ gn y → gk y i ≤ gk y j) → cr (n + 400) 139 [.ref 170, vi deep] s (SP C y m k0 1 s)
abbrev tk1 : tab → Prop := fun r => 1 ≤ r 170 4
abbrev tk3 : tab → Prop := fun r => 1 ≤ r 170 4 ∧ r 170 5 + 3 = r 170 6
abbrev tkN : tab → Prop := fun r => r 170 4 = 1
section SPOST
variable {C k0 k1 a b m2 : Nat} {y : gH} {r r1 r2 : tab} {z : Int} {j k : Nat}
theorem BX_po {nr : Nat} (h : BX C nr r r2) (q : r2 170 21 < 0) : r 170 21 < 0 := h.2.2.2.2.2.2.2.2.2.2.1 q
theorem SZ_E {ko : Nat → Nat} (h : CS r r2) : ∀ x, ZM ko (r 170 26).toNat x → SZ ko (r2 170 26).toNat k0 k1 x := fun x q => .inr (ZM_CS h x q)
theorem SZ_S {ko : Nat → Nat} (h : CS r r2) (h0 : k0 ≤ a) (h1 : b ≤ k1) : ∀ x, SZ ko (r 170 26).toNat a b x → SZ ko (r2 170 26).toNat k0 k1 x := by
  rintro x (⟨q1, q2⟩ | q)
  · exact .inl ⟨by omega, by omega⟩
  · exact .inr (ZM_CS h x q)
/-- one slot anew -/
def U1 (k j : Nat) (r r2 : tab) : Prop := ∀ k2 j2, ¬ (k2 = k ∧ j2 = j) → r2 k2 j2 = r k2 j2
theorem U1_up : U1 k j r (up2 r k j z) := fun _ _ h => if_neg h
/-- a name's scope -/
theorem x_scope {d : Nat} (hC : C = 177 ∨ C = 186) (s : rS) (hR : RF s.1) (hP : PI C y s.1) (hs : 0 ≤ s.1 170 16 ∧ s.1 170 16 ≤ 10000) : cr (d + 1) 135 [.ref 170] s (fun s2 out => out = some none ∧ s2.2 = s.2 ∧ RF s2.1 ∧ BX C (gn y) s.1 s2.1 ∧ (∀ k j, ¬ (k = 170 ∧ 15 ≤ j ∧ j ≤ 16) → s2.1 k j = s.1 k j) ∧ s2.1 170 16 = s.1 170 16 + 1) := by
  refine cr_mono (c_scope (d := d) s hR (by omega)) ?_
  rintro s2 out ⟨rfl, rfl⟩
  have hb : BX C (gn y) s.1 (up2 (up2 s.1 170 15 (s.1 170 16)) 170 16 (s.1 170 16 + 1)) := BX_set hC (BX_set hC (PI_rf hP) (by unfold SS; omega) (by unfold quiet; omega)) (by unfold SS; omega) (by unfold quiet; omega)
  have h16 : up2 (up2 s.1 170 15 (s.1 170 16)) 170 16 (s.1 170 16 + 1) 170 16 = s.1 170 16 + 1 := up_self
  exact ⟨rfl, rfl, BX_RF hC hb hR, hb, fun k j hn => (if_neg (by omega)).trans (if_neg (by omega)), h16⟩
/-- a variable is declared -/
theorem x_variable {d : Nat} {t : Int} (hC : C = 177 ∨ C = 186) (s : rS) (hR : RF s.1) (hP : PI C y s.1) (ht : i32 t) : cr (d + 8) 137 [.ref 170, vi t] s (fun s2 out => ∃ b : Int, out = some (some (vi b)) ∧ s2.2 = s.2 ∧ (b = 0 ∧ FR C s.1 s2.1 ∨ b = 1 ∧ RF s2.1 ∧ BX C (gn y) s.1 s2.1 ∧ (∀ k j, ¬ (k = 170 ∧ (3 ≤ j ∧ j ≤ 7 ∨ j = 14)) → ¬ (172 ≤ k ∧ k ≤ 176) → k ≠ C + 2 → ¬ (k = C ∧ j = 4) → s2.1 k j = s.1 k j) ∧ s.1 170 5 + 1 ≤ s2.1 170 5 ∧ s2.1 C 4 = s.1 C 4 + 1 ∧ s2.1 170 14 = s.1 170 14 + 1)) := by
  obtain ⟨p1, p2, p3, p4, p5⟩ := id hP
  unfold CT at p4
  have hn58 : s.1 170 14 ≤ 58 := by omega
  refine cr_mono (c_variable (d := d) hC s hR p1 p2 p3 (by omega) ht (by omega)) ?_
  rintro s2 out ⟨b, rfl, h1, ⟨rfl, h2⟩ | ⟨rfl, r1, h2, h3, h4, h5, h6, h7⟩⟩
  · exact ⟨0, rfl, h1, .inl ⟨rfl, FR_bad h2⟩⟩
  · obtain ⟨x0, x1, x2, x3, x4, x5, x6⟩ := id p2
    have hlt : s.1 170 5 < s.1 170 6 := by omega
    have hn0 := p3.1
    obtain ⟨N, hN⟩ : ∃ N : Nat, s.1 170 14 = (N : Int) := ⟨(s.1 170 14).toNat, by omega⟩
    rw [show (s.1 170 14).toNat = N by omega] at h2
    have u : ∀ k j, ¬ (k = 170 ∧ (3 ≤ j ∧ j ≤ 7 ∨ j = 14)) → ¬ (172 ≤ k ∧ k ≤ 176 ∧ j = N) → k ≠ C + 2 → ¬ (k = C ∧ j = 4) → s2.1 k j = s.1 k j := by
      intro k j e1 e2 e3 e4
      rw [h3]
      refine (if_neg (by omega)).trans ((if_neg (by omega)).trans ((h2 k j (by
        rintro ⟨q1, q2⟩
        simp only [List.mem_cons, List.not_mem_nil, or_false] at q2
        omega)).trans ?_))
      exact (if_neg (by omega)).trans ((if_neg (by omega)).trans ((if_neg (by omega)).trans ((if_neg (by omega)).trans ((if_neg (by omega)).trans (if_neg (by omega))))))
    have v : ∀ k j, (k = 170 ∧ 2 ≤ j ∧ j ≤ 7 ∨ 172 ≤ k ∧ k ≤ 176) → s2.1 k j = r1 k j := by
      intro k j e
      rw [h3]
      exact (if_neg (by omega)).trans (if_neg (by omega))
    have w : ∀ k, 172 ≤ k → k ≤ 176 → s2.1 k N = up2 (up2 (up2 (up2 (up2 (up2 s.1 172 N (s.1 170 5)) 173 N (s.1 170 6)) 174 N 0) 175 N (s.1 C 4)) 176 N (s.1 170 15)) 170 14 (s.1 170 14 + 1) k N := by
      intro k e1 e2
      rw [v k N (.inr ⟨e1, e2⟩)]
      exact h2 k N (by rintro ⟨q1, q2⟩; omega)
    have w2 : s2.1 172 N = s.1 170 5 := by
      rw [w 172 (by omega) (by omega)]
      exact (if_neg (by omega)).trans ((if_neg (by omega)).trans ((if_neg (by omega)).trans ((if_neg (by omega)).trans ((if_neg (by omega)).trans up_self))))
    have w3 : s2.1 173 N = s.1 170 6 := by
      rw [w 173 (by omega) (by omega)]
      exact (if_neg (by omega)).trans ((if_neg (by omega)).trans ((if_neg (by omega)).trans ((if_neg (by omega)).trans up_self)))
    have w4 : s2.1 174 N = 0 := by
      rw [w 174 (by omega) (by omega)]
      exact (if_neg (by omega)).trans ((if_neg (by omega)).trans ((if_neg (by omega)).trans up_self))
    have w5 : s2.1 175 N = s.1 C 4 := by
      rw [w 175 (by omega) (by omega)]
      exact (if_neg (by omega)).trans ((if_neg (by omega)).trans up_self)
    have hc4 : s2.1 C 4 = s.1 C 4 + 1 := by rw [h3]; exact up_self
    have h14 : s2.1 170 14 = s.1 170 14 + 1 := by
      rw [h3]
      refine (if_neg (by omega)).trans ((if_neg (by omega)).trans ((h2 170 14 (by decide)).trans up_self))
    have h5' : s2.1 170 5 = r1 170 5 := v 170 5 (by omega)
    have hL2 : LX s2.1 := LX_at h4 fun j e1 e2 => v 170 j (by omega)
    have hN2 : NM s2.1 := by
      refine ⟨by omega, by omega, fun k hk => ?_⟩
      by_cases e : k = N
      · subst e
        rw [w2, w3, w4, w5]
        refine ⟨by omega, by omega, by omega, by omega, by omega, by omega, by omega, by omega, by omega, by omega, by omega, by omega⟩
      · have h9 := p3.2.2 k (by omega)
        rw [u 172 k (by omega) (by omega) (by omega) (by omega), u 173 k (by omega) (by omega) (by omega) (by omega), u 174 k (by omega) (by omega) (by omega) (by omega), u 175 k (by omega) (by omega) (by omega) (by omega)]
        exact h9
    have hb : BX C (gn y) s.1 s2.1 := by
      refine ⟨fun k j hn => ?_, hL2, hN2, by omega, by rw [u C 1 (by omega) (by omega) (by omega) (by omega)]; omega, by omega, by omega, by omega, by omega, fun k e1 e2 => ?_, ?_, ?_⟩
      · unfold SS at hn
        exact u k j (by omega) (by omega) (by omega) (by omega)
      · rw [show k = N by omega]; exact w4
      · rw [u 170 21 (by omega) (by omega) (by omega) (by omega)]; exact id
      · rw [u 170 26 (by omega) (by omega) (by omega) (by omega)]; exact ⟨trivial, id⟩
    exact ⟨1, rfl, h1, .inr ⟨rfl, BX_RF hC hb hR, hb, fun k j e1 e2 e3 e4 => u k j e1 (by omega) e3 e4, by omega, hc4, h14⟩⟩
end SPOST
