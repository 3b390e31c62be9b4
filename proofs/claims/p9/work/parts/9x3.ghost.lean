/-! What is known of routines: one more of them. -/
section GHO
variable {s t s2 t2 : tab} {G G2 : Gmx} {md n a b f l k0 k1 q : Nat} {x : Int} {c d : Cxx}
/-- two that say the same of what is called -/
def AGg (G G2 : Gmx) (c : Cxx) : Prop := ∀ r, c.2.2.2 (24 + r) → G2.1 r = G.1 r ∧ G2.2.1 r = G.2.1 r ∧ (G2.2.2 r ↔ G.2.2 r)
theorem AG_sb (h : AGg G G2 c) (hs : SBx d c) : AGg G G2 d := fun r q => h r (hs.2.2.2 _ q)
theorem CL_G {x : Nat} (ha : AGg G G2 c) (k : CLk s t G (fun md n a b x f l k0 k1 q c => CO s t G md n a b x f l k0 k1 q c ∧ (AGg G G2 c → CO s t G2 md n a b x f l k0 k1 q c)) a x f l c) : CLk s t G2 (CO s t G2) a x f l c ∧ (G2.2.2 (s 101 x).toNat ↔ G.2.2 (s 101 x).toNat) := by
  obtain ⟨r, n, m, h1, h2, h3, h4, h5, h6, h7, h8, h9, h10, h11, h12, h13, h14, h15, h16⟩ := k
  obtain ⟨e1, e2, e3⟩ := ha r h11
  refine ⟨⟨r, n, m, h1, h2, h3, h4, h5, h6.2 ha, h7, h8, by rw [e1]; exact h9, h10, h11, by rw [e2]; exact h12, h13, h14, h15, by rw [e2]; exact h16⟩, ?_⟩
  rw [h1, Int.toNat_natCast]
  exact e3
theorem CO_G (h : CO s t G md n a b x f l k0 k1 q c) (ha : AGg G G2 c) : CO s t G2 md n a b x f l k0 k1 q c := by
  refine CO_ind (Q := fun md n a b x f l k0 k1 q c => AGg G G2 c → CO s t G2 md n a b x f l k0 k1 q c) ?_ h ha
  intro md n a b x f l k0 k1 q c h0 k ha
  refine CO_mk ?_
  rcases k with ⟨h1, h2, h3, h4, h5, h6, k⟩ | ⟨h1, h2, h3, h4, h5, h6, k⟩ | k | ⟨h1, n1, b1, m, h2, h3, h4⟩ | ⟨h1, n1, b1, m, kk, h2, h3, h4⟩ | ⟨h1, n1, b1, m, kk, c1, c2, h2, h3, h4, h5, h6, h7, h8, h9, h10⟩ | ⟨h1, h2, h3, h4, h5⟩
  · refine .inl ⟨h1, h2, h3, h4, h5, h6, ?_⟩
    rcases k with k | k | ⟨k1, k2, ⟨m, k3, k4⟩, k7, k8, k9⟩ | ⟨k1, m, k2, k3⟩ | ⟨k1, b1, m1, m2, k2, k3, k4⟩ | ⟨k1, k2, k3⟩
    · exact .inl k
    · exact .inr (.inl k)
    · exact .inr (.inr (.inl ⟨k1, k2, ⟨m, k3.2 ha, k4⟩, k7, k8, k9⟩))
    · exact .inr (.inr (.inr (.inl ⟨k1, m, k2.2 ha, k3⟩)))
    · exact .inr (.inr (.inr (.inr (.inl ⟨k1, b1, m1, m2, k2.2 ha, k3.2 ha, k4⟩))))
    · obtain ⟨z1, z2⟩ := CL_G ha k2
      exact .inr (.inr (.inr (.inr (.inr ⟨k1, z1, z2.mpr k3⟩))))
  · refine .inr (.inl ⟨h1, h2, h3, h4, h5, h6, ?_⟩)
    rcases k with ⟨k1, k2⟩ | k | ⟨k1, k2, n, k3, k4⟩ | ⟨k1, k2, k3, k4, ⟨m, k5, k6⟩, k7, k8, k9⟩ | ⟨k1, k2, k3, ⟨b1, m1, m2, k4, k5, k6⟩, k7, k8, k9⟩ | ⟨k1, k2, k3, ⟨m, k4, k5⟩, k7, k8, k9⟩ | ⟨k1, k2, k3, ⟨m, k4, k5⟩, k7, k8, k9, k10⟩ | ⟨k1, k2, k3, k4⟩ | ⟨k1, k2, b1, m, m2, k3, k4, k5⟩ | ⟨k1, k2, b1, m, m2, k3, k4, k5, k6, k7⟩ | ⟨k1, k2, k3, k4, k5, k6, k7, k8, k9, k10, m, k11, k12⟩ | ⟨k1, k2, k3, k4, k5, k6, n, k7, k8, k9, k10⟩
    · exact .inl ⟨k1, k2.2 ha⟩
    · exact .inr (.inl k)
    · exact .inr (.inr (.inl ⟨k1, k2, n, k3, k4.2 ha⟩))
    · exact .inr (.inr (.inr (.inl ⟨k1, k2, k3, k4, ⟨m, k5.2 ha, k6⟩, k7, k8, k9⟩)))
    · exact .inr (.inr (.inr (.inr (.inl ⟨k1, k2, k3, ⟨b1, m1, m2, k4.2 ha, k5.2 ha, k6⟩, k7, k8, k9⟩))))
    · exact .inr (.inr (.inr (.inr (.inr (.inl ⟨k1, k2, k3, ⟨m, k4.2 ha, k5⟩, k7, k8, k9⟩)))))
    · exact .inr (.inr (.inr (.inr (.inr (.inr (.inl ⟨k1, k2, k3, ⟨m, k4.imp id (fun w => ⟨w.1.2 ha, w.2⟩), k5⟩, k7, k8, k9, k10⟩))))))
    · obtain ⟨z1, z2⟩ := CL_G ha k2
      exact .inr (.inr (.inr (.inr (.inr (.inr (.inr (.inl ⟨k1, z1, k3, fun w => k4 (z2.mp w)⟩)))))))
    · refine .inr (.inr (.inr (.inr (.inr (.inr (.inr (.inr (.inl ⟨k1, k2, b1, m, m2, k3.2 ha, k4, ?_⟩))))))))
      rcases k5 with ⟨w1, w2, w3⟩ | ⟨b2, kk, w1, w2, w3⟩
      · exact .inl ⟨w1, w2.2 ha, w3⟩
      · exact .inr ⟨b2, kk, w1.2 ha, w2.2 ha, w3⟩
    · exact .inr (.inr (.inr (.inr (.inr (.inr (.inr (.inr (.inr (.inl ⟨k1, k2, b1, m, m2, k3.2 ha, k4, k5, k6.2 ha, k7⟩)))))))))
    · exact .inr (.inr (.inr (.inr (.inr (.inr (.inr (.inr (.inr (.inr (.inl ⟨k1, k2, k3, k4, k5, k6, k7, k8, k9, k10, m, k11.2 ha, k12⟩))))))))))
    · exact .inr (.inr (.inr (.inr (.inr (.inr (.inr (.inr (.inr (.inr (.inr ⟨k1, k2, k3, k4, k5, k6, n, k7, k8, k9, k10.2 ha⟩))))))))))
  · exact .inr (.inr (.inl k))
  · exact .inr (.inr (.inr (.inl ⟨h1, n1, b1, m, h2, h3.2 ha, h4.2 ha⟩)))
  · exact .inr (.inr (.inr (.inr (.inl ⟨h1, n1, b1, m, kk, h2, h3.2 ha, h4.2 ha⟩))))
  · exact .inr (.inr (.inr (.inr (.inr (.inl ⟨h1, n1, b1, m, kk, c1, c2, h2, h3.2 (AG_sb ha h7), h4, h5, h6.2 (AG_sb ha h8), h7, h8, h9, h10⟩)))))
  · exact .inr (.inr (.inr (.inr (.inr (.inr ⟨h1, h2, h3.2 ha, h4, h5⟩)))))
/-- one routine more -/
def upG (G : Gmx) (r : Nat) (e : Int) (c : Cxx) (p : Prop) : Gmx := ((fun j => if j = r then e else G.1 j), (fun j => if j = r then c else G.2.1 j), fun j => (j = r ∧ p) ∨ (j ≠ r ∧ G.2.2 j))
theorem upG_s {r : Nat} {e : Int} {p : Prop} : (upG G r e c p).1 r = e ∧ (upG G r e c p).2.1 r = c ∧ ((upG G r e c p).2.2 r ↔ p) := ⟨if_pos rfl, if_pos rfl, ⟨fun q => q.elim (fun w => w.2) (fun w => absurd rfl w.1), fun q => .inl ⟨rfl, q⟩⟩⟩
theorem upG_o {r j : Nat} {e : Int} {p : Prop} (h : j ≠ r) : (upG G r e c p).1 j = G.1 j ∧ (upG G r e c p).2.1 j = G.2.1 j ∧ ((upG G r e c p).2.2 j ↔ G.2.2 j) := ⟨if_neg h, if_neg h, ⟨fun q => q.elim (fun w => absurd w.1 h) (fun w => w.2), fun q => .inr ⟨h, q⟩⟩⟩
theorem own_o {k z : Nat} (h : ∀ j, j ≤ k → G2.2.1 j = G.2.1 j) : ownx G2 k z ↔ ownx G k z := by
  unfold ownx
  rw [h k (Nat.le_refl _)]
  constructor
  · intro ⟨q1, q2⟩
    exact ⟨q1, fun j hj => by rw [← h j (by omega)]; exact q2 j hj⟩
  · intro ⟨q1, q2⟩
    exact ⟨q1, fun j hj => by rw [h j (by omega)]; exact q2 j hj⟩
/-- a routine stays known -/
theorem RV_mv {a0 a1 r : Nat} (h : RVx G a0 s t r) (h1 : G2.1 r = G.1 r) (h2 : ∀ j, j ≤ r → G2.2.1 j = G.2.1 j) (ha : a0 ≤ a1) (hs : ∀ k, k = 112 ∨ k = 113 → s2 k r = s k r) (ht : ∀ k, 195 ≤ k → k ≤ 202 → k ≠ 201 → t2 k r = t k r) (hbn : s 109 0 ≤ s2 109 0 ∧ s 109 1 ≤ s2 109 1) (hf : G2.2.2 r → G.2.2 r) : RVx G2 a1 s2 t2 r := by
  obtain ⟨v1, v2, v3, v4, v5, v6, v7, v8, v9, v10, v11, v12, v13⟩ := h
  unfold RVx
  rw [h1, h2 r (Nat.le_refl _), hs 113 (by omega), hs 112 (by omega), ht 200 (by omega) (by omega) (by omega), ht 202 (by omega) (by omega) (by omega), ht 195 (by omega) (by omega) (by omega), ht 196 (by omega) (by omega) (by omega), ht 197 (by omega) (by omega) (by omega), ht 198 (by omega) (by omega) (by omega), ht 199 (by omega) (by omega) (by omega)]
  refine ⟨v1, v2, v3, v4, fun k q => ?_, fun z q => ?_, v7, v8, v9, v10, v11, fun v q => bnd_m hbn.1 hbn.2 (v12 v q), fun q => v13 (hf q)⟩
  · obtain ⟨w1, w2⟩ := v5 k q
    exact ⟨w1, fun z w => by have := w2 z ((own_o (fun j hj => h2 j (by omega))).mp w); omega⟩
  · obtain ⟨w1, k, w2, w3⟩ := v6 z q
    exact ⟨by omega, k, w2, (own_o (fun j hj => h2 j (by have := (v5 k w2).1; omega))).mpr w3⟩
/-- bits from F + i on, k of them -/
def orb (F : Int) : Nat → Int → Int → Int
  | 0, _, a => a
  | k + 1, i, a => orb F k (i + 1) (lo a (lsl 1 (F + i)))
theorem mbt_orb {F : Int} : ∀ (k : Nat) (i a : Int) (v : Nat), 0 ≤ F + i → F + i + (k : Int) ≤ 30 → (mbt a v → mbt (orb F k i a) v) ∧ ((F + i ≤ (v : Int) ∧ (v : Int) < F + i + (k : Int)) → mbt (orb F k i a) v)
  | 0, i, a, v, _, _ => ⟨fun q => q, fun q => by omega⟩
  | k + 1, i, a, v, h0, h1 => by
    obtain ⟨z1, z2⟩ := mbt_orb (F := F) k (i + 1) (lo a (lsl 1 (F + i))) v (by omega) (by omega)
    refine ⟨fun q => z1 (mbt_lo.mpr (.inl q)), fun q => ?_⟩
    show mbt (orb F k (i + 1) (lo a (lsl 1 (F + i)))) v
    by_cases e : (v : Int) = F + i
    · exact z1 (mbt_lo.mpr (.inr ((mbt_l (by omega)).mpr e)))
    · exact z2 (by omega)
theorem mbt_orr {F : Int} : ∀ (k : Nat) (i a : Int) (v : Nat), 0 ≤ F + i → F + i + (k : Int) ≤ 30 → mbt (orb F k i a) v → mbt a v ∨ (F + i ≤ (v : Int) ∧ (v : Int) < F + i + (k : Int))
  | 0, i, a, v, _, _, q => .inl q
  | k + 1, i, a, v, h0, h1, q => by
    rcases mbt_orr (F := F) k (i + 1) (lo a (lsl 1 (F + i))) v (by omega) (by omega) q with z | z
    · rcases mbt_lo.mp z with z | z
      · exact .inl z
      · have := (mbt_l (by omega)).mp z
        exact .inr (by omega)
    · exact .inr (by omega)
end GHO
