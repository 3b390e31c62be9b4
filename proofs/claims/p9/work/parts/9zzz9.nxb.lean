/-! A branch at the beginning of a part goes on. -/
section NXBX
variable {K : SCt} {r s : tab} {b M : Nat}
/-- each instruction of branch b ends -/
def TRM (b : Nat) (r : tab) : Prop := ∀ r1 k, MS b k r r1 → r1 206 b = 1 → r1 170 52 = 2 → ∃ v, eG 11 [(b : Int)] r1 = some v
theorem F7_b {act : Nat → Prop} {x : Nat} (h : FL7 K s act) (h4 : s 144 x < 2) (h3 : K.1 103 x < 0 → s 144 x < 1) : s 147 x = 0 := Classical.byContradiction fun q => by
  have := (h x q).2.2
  unfold sgu at this
  split at this <;> omega
theorem nx_B (hK : SPK K) (hT : TRM b r) : ∀ (N x : Nat) (s : tab) (Q : Nat → Nat) (n : Nat) (act : Nat → Prop) (lf dr : Nat → Int) (LG : Nat → Prop), x < N → REL K M False r s Q n act lf dr LG → LVb r b → BEG K r s Q act lf dr LG b → lf b = (x : Int) → NXT K M b r s Q n
  | 0, _, _, _, _, _, _, _, _, hN, _, _, _, _ => absurd hN (by omega)
  | N + 1, x, s, Q, n, act, lf, dr, LG, hN, hR, hb, hB, hx => by
    have hn : ∀ s2 Q2 n2 act2 lf2 dr2 (y : Nat), y < x → REL K M False r s2 Q2 n2 act2 lf2 dr2 LG → LVb r b → BEG K r s2 Q2 act2 lf2 dr2 LG b → lf2 b = (y : Int) → NXT K M b r s2 Q2 n2 := fun s2 Q2 n2 act2 lf2 dr2 y hy w1 w2 w3 w4 => nx_B hK hT N y s2 Q2 n2 act2 lf2 dr2 LG (by omega) w1 w2 w3 w4
    obtain ⟨h1, x0, md, f, l, a, k0, k1, c, S, B, tp, w1, w2, w3, w4, w5, w6, w7, w8, w9, w10, w11⟩ := id hB
    have : x0 = x := by omega
    subst this
    have hG : BG K M r s Q n act lf dr LG b x0 md f l S B tp := ⟨hR, hb, h1, w1, w2, w3, w4, w5, w6, w9, w10, w11⟩
    obtain ⟨u, uL⟩ := CPX_un w8
    have rt := CPX_rt w8 w7
    have hxl : (x0 : Int) < K.1 99 12 := by omega
    have hl := w8.2.2.2
    obtain ⟨gd1, gd2⟩ := w8.2.1
    have h7 : s 147 x0 = 0 := F7_b hR.2.2.2.2.2.2.2.2.2.2.2.2.2.2.2.2.2.1 (by omega) (by omega)
    have call : AUx c → K.1 100 x0 = 404 → CLk K.1 K.2.1 K.2.2.1 (CPX K) a x0 f l c → (md = 0 ∧ K.2.2.1.2.2 (K.1 101 x0).toNat ∨ md = 1 ∧ ¬ K.2.2.1.2.2 (K.1 101 x0).toNat) → NXT K M b r s Q n := fun au hk ⟨q, j, m, e1, e2, e3, e4, e5, e6, e7, e8, e9, e10, e11, e12, e13, e14, e15, e16⟩ hm => by
      rw [e1, Int.toNat_natCast] at hm
      have hp : ∀ i, i < j → bnd K.1 ((K.1 113 q).toNat + i) := fun i hi => gd2 _ (au _ (e15 i hi))
      cases j with
      | zero =>
        obtain ⟨v, _⟩ := CPX_un e6
        have em : f + 1 = m := by
          rcases v with ⟨v, _⟩ | ⟨v, _⟩ | ⟨_, _, _, v, _⟩ | ⟨_, _, _, _, v, _⟩ | ⟨v, _⟩ | ⟨v, _⟩ | ⟨v, _⟩
          · omega
          · omega
          · exact v
          · omega
          · omega
          · omega
          · omega
        subst em
        exact b_404z hK hG hl hk e1 e2 (gd1 q e11) e3 e5 ⟨e7, e8, e9, e10⟩ ⟨e13, by omega⟩ hm
      | succ j => exact b_404 hK hG hxl hl hk e1 e2 (gd1 q e11) e3 e4 e5 e6 ⟨e7, e8, e9, e10⟩ ⟨e13, e14, hp⟩ hm
    rcases u with ⟨h1, h2, h3, h4, au, h6, k⟩ | ⟨h1, h2, h3, h4, au, h6, k⟩ | ⟨u, _⟩ | ⟨u, _⟩ | ⟨u, _⟩ | ⟨u, _⟩ | ⟨u, _⟩
    · rw [Int.toNat_natCast] at k
      subst h1
      rcases k with ⟨e1, _, e3, e4, e5, e6⟩ | ⟨e1, _, e3, e4, e5, e6, e7, e8, e9⟩ | ⟨e1, e2, ⟨m, e3, e4, e5, e6⟩, e7, e8, e9⟩ | ⟨e1, m, e2, e3, e4, e5, e6⟩ | ⟨e1, b1, m1, m2, e2, e3, e4, e5, e6, e7, e8⟩ | ⟨e1, e2, e3⟩
      · exact b_2 hK hG hl e1 e3 e4 e5 e6
      · exact b_400 hK hG hl e1 e3 e4 e5 e6 e7 e8
      · exact b_401 hK hG hxl hl e1 e2 e3 e4 e5 e6 ⟨e7, e8, gd2 _ e9⟩
      · exact b_402 hK hG hxl hl e1 e2 e3 e4 e5 e6 hn
      · exact b_403 hK hG hxl hl e1 e2 e3 e4 e5 e6 e7 e8 hn
      · exact call au e1 e2 (.inl ⟨rfl, e3⟩)
    · rw [Int.toNat_natCast] at k
      subst h1
      rcases k with ⟨e1, e2⟩ | ⟨e1, _, e3, e4, e5⟩ | ⟨e1, e2, j, e3, e4⟩ | ⟨e1, e2, e3, e4, ⟨m, e5, e6, e7, e8⟩, e9, e10, e11⟩ | ⟨e1, e2, e3, ⟨b1, m1, m2, e4, e5, e6, e7, e8⟩, e9, e10, e11⟩ | ⟨e1, e2, e3, ⟨m, e4, e5, e6, e7⟩, e8, e9, e10⟩ | ⟨e1, e2, e3, ⟨m, e4, e5, e6, e7, e8, e9⟩, e10, e11, e12, e13⟩ | ⟨e1, e2, e3, e4⟩ | ⟨e1, e2, b1, m, m2, e3, e4, e5⟩ | ⟨e1, e2, b1, m, m2, e3, e4, e5, e6, e7, e8, e9⟩ | ⟨e1, e2, e3, e4, e5, e6, e7, e8, e9, e10, m, e11, e12, e13, e14⟩ | ⟨e1, e2, e3, e4, e5, e6, j, e7, e8, e9, e10⟩
      · have e2' := CPX_rt e2 (by omega)
        obtain ⟨r2, a1, a2, a3⟩ := o_noth (hR.2.2.1 b hb).1 w9 (by omega) ((hR.2.1.2 f).trans e1)
        obtain ⟨i1, i2, i3, i4, i5, i6, i7, i8⟩ := Fn_o a3 (hR.2.2.1 b hb).1
        have hbr : BRx K False r2 s Q act lf dr LG b := ⟨(hR.2.2.1 b hb).1, .inl ⟨i5.trans hG.2.2.1, x0, 1, f + 1, l, a, k0, k1, c, S, B, tp, w1, w2, w3, w4, w5, w6, by omega, e2, a2, w10, by
          rcases w11 with q | ⟨q, q1, q2, q3, q4, q5, q6, q7⟩
          · exact .inl q
          · have b7 := (hR.2.2.1 b hb).1
            exact .inr ⟨q, (a3 210 b (by omega) (by omega) (by omega)).trans q1, by rw [a3 170 55 (by omega) (by omega) (by omega)]; exact q2, q3, (a3 206 q (by omega) (by omega) (by omega)).trans q4, q5, q6, q7⟩⟩⟩
        obtain ⟨j1, _, _, _, j5⟩ := REL_r hR hb hG.2.2.1 a3 hbr
        exact .inl ⟨0, r2, [], s, Q, n, act, lf, dr, LG, MS_1 hG.2.2.1 hR.2.2.2.2.2.2.2.2.2.2.2.2.2.2.2.2.1 a1, trivial, rfl, j1, j5, HR_55 (HR_F a3)⟩
      · exact b_314 hK hG hl e1 e3 e4
      · exact b_408 hK hG hxl hl e1 e2 e3 e4
      · exact b_405 hK hG hxl hl e1 e4 e2 e5 e6 e7 e8 ⟨e9, e10, gd2 _ (au _ e11)⟩
      · exact b_405s hK hG hxl hl e1 e2 e4 e5 e6 e7 e8 ⟨e9, e10, gd2 _ (au _ e11)⟩
      · exact b_406 hK hG hxl hl e1 e2 e4 e5 e6 e7 ⟨e8, e9⟩
      · have hRC : (0 ≤ K.1 102 x0 ∧ K.1 102 x0 < 30) → RCx K x0 m l := fun q => ⟨e5, e6, e7, e8, e9, hl, e10, e11, q.1, q.2, gd2 _ (au _ e13)⟩
        rcases e4 with ⟨v1, v2, v3, v4, v5⟩ | ⟨v1, v2, v3⟩
        · subst v3
          exact b_407 hK hG e1 h7 v1 v5 e2 (by omega) (hRC (by omega))
        · exact b_407s hK hG hxl hl e1 h7 e2 v1 v2 (hRC (by omega))
      · exact call au e1 e2 (.inr ⟨rfl, e4⟩)
      · exact b_308 hK hG hxl hl e1 e2 e3 e4 e5
      · exact b_310 hK hG hxl hl e1 e2 e3 e4 e5 e6 e7 e8 e9
      · have hL : K.2.2.2.2.1 x0 = k0 := by
          have := uL rfl (by rw [Int.toNat_natCast]; exact e1)
          rw [Int.toNat_natCast] at this
          exact this
        exact b_311 hK hG hxl hl e1 hL e2 e3 e4 e5 e6 e7 e8 e9 e10 e11 e12 e13 e14
      · have le := (CO_le (CPX_co e10)).2.1
        exact b_312 hK hG hl e1 e2 e3 e4 e5 e6 e7 e8 e9 le e10 hT
    · omega
    · omega
    · omega
    · omega
    · omega
end NXBX
