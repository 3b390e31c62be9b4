/-! Parts and code: more may be allowed; rows grow. -/
section COS
variable {s t s2 t2 : tab} {G : Gmx} {R R2 : COt} {md n a b f l k0 k1 q : Nat} {x : Int} {c d : Cxx}
theorem CL_sub {x : Nat} (hs : SBx c d) (ha : AUx d) (k : CLk s t G (fun md n a b x f l k0 k1 q c => CO s t G md n a b x f l k0 k1 q c ∧ (∀ d, SBx c d → AUx d → CO s t G md n a b x f l k0 k1 q d)) a x f l c) : CLk s t G (CO s t G) a x f l d := by
  obtain ⟨r, n, m, h1, h2, h3, h4, h5, h6, h7, h8, h9, h10, h11, h12, h13, h14, h15, h16⟩ := k
  exact ⟨r, n, m, h1, h2, h3, h4, h5, h6.2 d hs ha, h7, h8, h9, h10, hs.2.2.2 _ h11, SB_tr h12 hs, h13, h14, fun i hi => hs.2.2.1 _ (h15 i hi), h16⟩
theorem CO_sub (h : CO s t G md n a b x f l k0 k1 q c) (hs : SBx c d) (ha : AUx d) : CO s t G md n a b x f l k0 k1 q d := by
  refine CO_ind (Q := fun md n a b x f l k0 k1 q c => ∀ d, SBx c d → AUx d → CO s t G md n a b x f l k0 k1 q d) ?_ h d hs ha
  intro md n a b x f l k0 k1 q c h0 k d hs ha
  refine CO_mk ?_
  rcases k with ⟨h1, h2, h3, h4, h5, h6, k⟩ | ⟨h1, h2, h3, h4, h5, h6, k⟩ | k | ⟨h1, n1, b1, m, h2, h3, h4⟩ | ⟨h1, n1, b1, m, kk, h2, h3, h4⟩ | ⟨h1, n1, b1, m, kk, c1, c2, h2, h3, h4, h5, h6, h7, h8, h9, h10⟩ | ⟨h1, h2, h3, h4, h5⟩
  · refine .inl ⟨h1, h2, h3, h4, ha, hs.1 _ h6, ?_⟩
    rcases k with k | ⟨k1, k2, k3, k4, k5, k6, k7, k8, k9⟩ | ⟨k1, k2, ⟨m, k3, k4⟩, k7, k8, k9⟩ | ⟨k1, m, k2, k3⟩ | ⟨k1, b1, m1, m2, k2, k3, k4⟩ | ⟨k1, k2, k3⟩
    · exact .inl k
    · exact .inr (.inl ⟨k1, k2, k3, k4, k5, k6, k7, k8, hs.2.1 _ k9⟩)
    · exact .inr (.inr (.inl ⟨k1, k2, ⟨m, k3.2 d hs ha, k4⟩, k7, k8, hs.2.1 _ k9⟩))
    · exact .inr (.inr (.inr (.inl ⟨k1, m, k2.2 d hs ha, k3⟩)))
    · exact .inr (.inr (.inr (.inr (.inl ⟨k1, b1, m1, m2, k2.2 d hs ha, k3.2 d hs ha, k4⟩))))
    · exact .inr (.inr (.inr (.inr (.inr ⟨k1, CL_sub hs ha k2, k3⟩))))
  · refine .inr (.inl ⟨h1, h2, h3, h4, ha, hs.1 _ h6, ?_⟩)
    rcases k with ⟨k1, k2⟩ | k | ⟨k1, k2, n, k3, k4⟩ | ⟨k1, k2, k3, k4, ⟨m, k5, k6⟩, k7, k8, k9⟩ | ⟨k1, k2, k3, ⟨b1, m1, m2, k4, k5, k6⟩, k7, k8, k9⟩ | ⟨k1, k2, k3, ⟨m, k4, k5⟩, k7, k8, k9⟩ | ⟨k1, k2, k3, ⟨m, k4, k5⟩, k7, k8, k9, k10⟩ | ⟨k1, k2, k3⟩ | ⟨k1, k2, b1, m, m2, k3, k4, k5⟩ | ⟨k1, k2, b1, m, m2, k3, k4, k5, k6, k7⟩ | ⟨k1, k2, k3, k4, k5, k6, k7, k8, k9, k10, m, k11, k12⟩ | ⟨k1, k2, k3, k4, k5, k6, n, k7, k8, k9, k10⟩
    · exact .inl ⟨k1, k2.2 d hs ha⟩
    · exact .inr (.inl k)
    · exact .inr (.inr (.inl ⟨k1, k2, n, k3, k4.2 d hs ha⟩))
    · exact .inr (.inr (.inr (.inl ⟨k1, k2, k3, k4, ⟨m, k5.2 d hs ha, k6⟩, k7, k8, hs.2.2.1 _ k9⟩)))
    · exact .inr (.inr (.inr (.inr (.inl ⟨k1, k2, k3, ⟨b1, m1, m2, k4.2 d hs ha, k5.2 d hs ha, k6⟩, k7, k8, hs.2.2.1 _ k9⟩))))
    · exact .inr (.inr (.inr (.inr (.inr (.inl ⟨k1, k2, k3, ⟨m, k4.2 d hs ha, k5⟩, k7, k8, hs.2.2.2 _ k9⟩)))))
    · exact .inr (.inr (.inr (.inr (.inr (.inr (.inl ⟨k1, k2, k3, ⟨m, k4.imp id (fun w => ⟨w.1.2 d hs ha, w.2⟩), k5⟩, k7, k8, hs.2.2.2 _ k9, hs.2.2.1 _ k10⟩))))))
    · exact .inr (.inr (.inr (.inr (.inr (.inr (.inr (.inl ⟨k1, CL_sub hs ha k2, k3⟩)))))))
    · refine .inr (.inr (.inr (.inr (.inr (.inr (.inr (.inr (.inl ⟨k1, k2, b1, m, m2, k3.2 d hs ha, k4, ?_⟩))))))))
      rcases k5 with ⟨w1, w2, w3⟩ | ⟨b2, kk, w1, w2, w3⟩
      · exact .inl ⟨w1, w2.2 d hs ha, w3⟩
      · exact .inr ⟨b2, kk, w1.2 d hs ha, w2.2 d hs ha, w3⟩
    · exact .inr (.inr (.inr (.inr (.inr (.inr (.inr (.inr (.inr (.inl ⟨k1, k2, b1, m, m2, k3.2 d hs ha, k4, k5, k6.2 d hs ha, k7⟩)))))))))
    · exact .inr (.inr (.inr (.inr (.inr (.inr (.inr (.inr (.inr (.inr (.inl ⟨k1, k2, k3, k4, k5, k6, k7, k8, k9, k10, m, k11.2 d hs ha, k12⟩))))))))))
    · exact .inr (.inr (.inr (.inr (.inr (.inr (.inr (.inr (.inr (.inr (.inr ⟨k1, k2, k3, k4, k5, k6, n, k7, k8, k9, k10.2 d hs ha⟩))))))))))
  · exact .inr (.inr (.inl k))
  · exact .inr (.inr (.inr (.inl ⟨h1, n1, b1, m, h2, h3.2 d hs ha, h4.2 d hs ha⟩)))
  · exact .inr (.inr (.inr (.inr (.inl ⟨h1, n1, b1, m, kk, h2, h3.2 d hs ha, h4.2 d hs ha⟩))))
  · exact .inr (.inr (.inr (.inr (.inr (.inl ⟨h1, n1, b1, m, kk, c1, c2, h2, h3.1, h4, h5, h6.1, SB_tr h7 hs, SB_tr h8 hs, h9, h10⟩)))))
  · exact .inr (.inr (.inr (.inr (.inr (.inr ⟨h1, h2, h3.2 d hs ha, h4, h5⟩)))))
/-- a row, and one more: y, behind the root z = b - 1 of the last -/
theorem ROW0 (h : md = 2 ∨ md = 3 ∨ md = 4) : CO s t G md 0 a a (-1) f f k0 k0 q c := CO_mk (.inr (.inr (.inl ⟨h, rfl, rfl, rfl, rfl, rfl⟩)))
theorem ROW_x (h : CO s t G md n a b x f l k0 k1 q c) (hm : md = 2 ∨ md = 3 ∨ md = 4) : (n = 0 ∧ a = b ∧ f = l ∧ x = -1 ∧ k1 = k0) ∨ (0 < n ∧ a < b ∧ 0 ≤ x) := by
  rcases CO_un h with u | u | u | ⟨h1, n1, b1, m, h2, h3, h4⟩ | ⟨h1, n1, b1, m, kk, h2, h3, h4⟩ | ⟨h1, n1, b1, m, kk, c1, c2, h2, h3, h4, h5, h6, h7⟩ | u
  · have := u.1
    omega
  · have := u.1
    omega
  · exact .inl u.2
  · have := (CO_rt h3 (by omega)).1
    have := (CO_le h3).2.2 (by omega)
    have := (CO_le h4).1
    exact .inr ⟨by omega, by omega, by omega⟩
  · have := (CO_rt h3 (by omega)).1
    have := (CO_le h3).2.2 (by omega)
    have := (CO_le h4).1
    exact .inr ⟨by omega, by omega, by omega⟩
  · have := (CO_rt h3 (by omega)).1
    have := (CO_le h3).2.2 (by omega)
    have := (CO_le h6).1
    exact .inr ⟨by omega, by omega, by omega⟩
  · have := u.1
    omega
theorem ROW_s {e : Nat} (hm : md = 2 ∧ e = 0 ∨ md = 3 ∧ e = 1) {y : Int} {b2 l2 k2 : Nat} : ∀ (n a : Nat) (x : Int) (f k0 : Nat), CO s t G md n a b x f l k0 k1 q c → CO s t G e 0 b b2 y l l2 k1 k2 q c → (md = 2 → k1 = 0 ∧ k2 = 0 ∧ k0 = 0) → q = 0 → s 104 y.toNat = -1 → (n = 0 → True) → CO (if 0 < n then up2 s 104 (b - 1) y else s) t G md (n + 1) a b2 (if 0 < n then x else y) f l2 k0 k2 q c := by
  intro n
  induction n with
  | zero =>
    intro a x f k0 h hy h9 hq hl _
    rcases ROW_x h (by omega) with ⟨_, e1, e2, e3, e4⟩ | u
    · subst e1
      subst e2
      subst e4
      rw [if_neg (by omega), if_neg (by omega)]
      rcases hm with ⟨e5, e6⟩ | ⟨e5, e6⟩
      · obtain ⟨i1, i2, i3⟩ := h9 e5
        subst e5 e6 i1 i2 hq
        refine CO_mk (.inr (.inr (.inr (.inl ⟨rfl, 0, b2, l2, rfl, hy, ?_⟩))))
        rw [hl]
        exact ROW0 (.inl rfl)
      · subst e5 e6 hq
        refine CO_mk (.inr (.inr (.inr (.inr (.inl ⟨.inl rfl, 0, b2, l2, k2, rfl, hy, ?_⟩)))))
        rw [hl]
        exact ROW0 (.inr (.inl rfl))
    · omega
  | succ n ih =>
    intro a x f k0 h hy h9 hq hl _
    rw [if_pos (by omega), if_pos (by omega)]
    have yb := (CO_rt hy (by omega)).1
    have yl := (CO_le hy).2.2 (by omega)
    have key : ∀ {e2 b1 m k9 k8 : Nat} {x2 : Int}, e2 ≤ 1 → b1 ≤ b → CO s t G e2 0 a b1 x2 f m k9 k8 0 c → CO (up2 s 104 (b - 1) y) t G e2 0 a b1 x2 f m k9 k8 0 c := fun he hb1 w => by
      have := (CO_le w).2.2 he
      exact CO_ext w ⟨fun k j w1 w2 w3 w4 => if_neg (by omega), fun j w1 w2 w3 => if_neg (by have := w3 he; omega), fun _ _ _ => rfl, fun w => absurd w (by omega), by rw [show (up2 s 104 (b - 1) y) 99 12 = s 99 12 from if_neg (by omega)]; exact Int.le_refl _, fun r _ => if_neg (by omega)⟩
    rcases CO_un h with u | u | u | ⟨h1, n1, b1, m, h2, h3, h4⟩ | ⟨h1, n1, b1, m, kk, h2, h3, h4⟩ | ⟨h1, n1, b1, m, kk, c1, c2, h2, h3, h4, h5, h6, h7⟩ | u
    · have := u.1
      omega
    · have := u.1
      omega
    · have := u.2.1
      omega
    · obtain ⟨i1, i2, i3⟩ := h9 h1
      have e1 : n1 = n := by omega
      subst h1 i1 i2 hq e1 i3
      have r1 := (CO_rt h3 (by omega)).1
      have l1 := (CO_le h4).1
      have l0 := (CO_le h3).2.2 (by omega)
      refine CO_mk (.inr (.inr (.inr (.inl ⟨rfl, n1 + 1, b1, m, rfl, key (by omega) l1 h3, ?_⟩))))
      have := ih b1 _ m 0 h4 hy (fun _ => ⟨rfl, rfl, rfl⟩) rfl hl (fun _ => trivial)
      rcases ROW_x h4 (.inl rfl) with ⟨v1, v2, v3, v4, _⟩ | ⟨v1, v2, v3⟩
      · subst v1
        rw [if_neg (by omega), if_neg (by omega)] at this
        have e7 : (up2 s 104 (b - 1) y) 104 x.toNat = y := by
          rw [show b - 1 = x.toNat by omega]
          exact up_self
        rw [e7]
        have hyl := (CO_le this).1
        exact CO_ext this ⟨fun k j w1 w2 w3 w4 => if_neg (by omega), fun j w1 w2 w3 => if_neg (by omega), fun _ _ _ => rfl, fun w => absurd w (by omega), by rw [show (up2 s 104 (b - 1) y) 99 12 = s 99 12 from if_neg (by omega)]; exact Int.le_refl _, fun r _ => if_neg (by omega)⟩
      · rw [if_pos v1, if_pos v1] at this
        rw [show (up2 s 104 (b - 1) y) 104 x.toNat = s 104 x.toNat from if_neg (by omega)]
        exact this
    · have h1 : md = 3 := by omega
      have e1 : n1 = n := by omega
      subst h1 hq e1
      have r1 := (CO_rt h3 (by omega)).1
      have l1 := (CO_le h4).1
      have l0 := (CO_le h3).2.2 (by omega)
      refine CO_mk (.inr (.inr (.inr (.inr (.inl ⟨.inl rfl, n1 + 1, b1, m, kk, rfl, key (by omega) l1 h3, ?_⟩)))))
      have := ih b1 _ m kk h4 hy (fun w => absurd w (by omega)) rfl hl (fun _ => trivial)
      rcases ROW_x h4 (.inr (.inl rfl)) with ⟨v1, v2, v3, v4, _⟩ | ⟨v1, v2, v3⟩
      · subst v1
        rw [if_neg (by omega), if_neg (by omega)] at this
        have e7 : (up2 s 104 (b - 1) y) 104 x.toNat = y := by
          rw [show b - 1 = x.toNat by omega]
          exact up_self
        rw [e7]
        exact CO_ext this ⟨fun k j w1 w2 w3 w4 => if_neg (by omega), fun j w1 w2 w3 => if_neg (by omega), fun _ _ _ => rfl, fun w => absurd w (by omega), by rw [show (up2 s 104 (b - 1) y) 99 12 = s 99 12 from if_neg (by omega)]; exact Int.le_refl _, fun r _ => if_neg (by omega)⟩
      · rw [if_pos v1, if_pos v1] at this
        rw [show (up2 s 104 (b - 1) y) 104 x.toNat = s 104 x.toNat from if_neg (by omega)]
        exact this
    · omega
    · have := u.1
      omega
end COS
